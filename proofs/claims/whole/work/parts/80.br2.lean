/-! the reference's side behind each call, 2: a piece; sewing, fitting, giving, cutting -/
section BREG
variable {cy : Nat → ClassId} {ad ad1 : Nat → Nat} {ct ct1 : Nat → Option va_E} {M : tM} {sm : Int64}
theorem bR_piece (h : lR cy ad ct M) (ho : okM M) {i : Nat} (hi : i < mS M) (hm : (mst M i).1 < 5) (hno : ∀ j, j < mO M → ¬ oS (mod M j) = i) (pc : tPc) (had : ∀ j, j ≠ 144 + i → j ≠ 150 + 5 * i + (mst M i).1 → ad1 j = ad j) (hl : rLst cy ad1 ct1 (140 + i) (144 + i) (150 + 5 * i) ((mst M i).1 + 1)) (h1 : ct1 (150 + 5 * i + (mst M i).1) = some (.inl (cy 1, 4, aI (fI4 (fPc4 pc))))) (hs : ct1 100 = some (oMod ad M 0 sm)) (hr : ∀ k9, k9 ≠ 100 → k9 ≠ 140 + i → k9 ≠ 144 + i → k9 ≠ 150 + 5 * i + (mst M i).1 → ct1 k9 = ct k9) : lR cy ad1 ct1 (sSt M i (zPc (mst M i) pc)) ∧ kFl ad ad1 ct ct1 := by
  have hb := ho.1
  obtain ⟨-, h2, ⟨g1, g2, g3, g4, g5, g6, g7⟩, h4⟩ := h
  obtain ⟨⟨a1, a2, a3, a4⟩, ⟨b1, b2⟩, c1, c2, c3, c4, c5, c6, c7⟩ := h2
  have hk3 := ho.2.2.2.1
  have hk5 := ho.2.2.2.2.2
  generalize hn : (mst M i).1 = n at *
  have g : ∀ j, (j < 100 ∨ (101 ≤ j ∧ j < 140) ∨ 170 ≤ j) → ad1 j = ad j ∧ ct1 j = ct j := fun j a => ⟨had j (by omega) (by omega), hr j (by omega) (by omega) (by omega) (by omega)⟩
  have hz : zPc (mst M i) pc = (n + 1, vf_upd (mst M i).2.1 n pc, (mst M i).2.2) := by show ((mst M i).1 + 1, vf_upd (mst M i).2.1 (mst M i).1 pc, (mst M i).2.2) = _; rw [hn]
  refine ⟨⟨⟨0, sm, hs.trans (congrArg some (oMod_6 (M := M) (fun j a b => (g j (by omega)).1)))⟩, ⟨⟨a1.mvg (g 0 (by omega)).1 (g _ (by omega)).1 (g _ (by omega)).2 (g _ (by omega)).2 (fun j hj => (g _ (by omega)).1), a2.mvg (g 0 (by omega)).1 (g _ (by omega)).1 (g _ (by omega)).2 (g _ (by omega)).2 (fun j hj => (g _ (by omega)).1), a3.mvg (g 0 (by omega)).1 (g _ (by omega)).1 (g _ (by omega)).2 (g _ (by omega)).2 (fun j hj => had _ (by omega) (by omega)), a4.mvg (g 0 (by omega)).1 (g _ (by omega)).1 (g _ (by omega)).2 (g _ (by omega)).2 (fun j hj => (g _ (by omega)).1)⟩, ⟨(g _ (by omega)).2.trans b1, (g _ (by omega)).2.trans b2⟩, fun j hj => (g _ (by have : j < mC M := hj; omega)).2.trans (c1 j hj), fun j hj => (g _ (by have : j < mP M := hj; omega)).2.trans (c2 j hj), fun j (hj : j < mS M) => ?_, fun j (hj : j < mS M) k hk => ?_, fun j (hj : j < mO M) => ?_, fun j (hj : j < mO M) => ⟨fun z => (g _ (by omega)).2.trans ((c6 j hj).1 z), fun z => ?_⟩, (g 0 (by omega)).2.trans c7⟩, ⟨fun i' a b => (g _ (by omega)).2.trans (g1 i' a b), fun i' a b => (g _ (by omega)).2.trans (g2 i' a b), fun i' (a : mS M ≤ i') b => ⟨(hr _ (by omega) (by omega) (by omega) (by omega)).trans (g3 i' a b).1, (hr _ (by omega) (by omega) (by omega) (by omega)).trans (g3 i' a b).2⟩, fun i' a j b d => ?_, fun i' a b => ⟨(g _ (by omega)).2.trans (g5 i' a b).1, (g _ (by omega)).2.trans (g5 i' a b).2⟩, fun i' a b => (g _ (by omega)).2.trans (g6 i' a b), fun j a => (g _ (by omega)).2.trans (g7 j a)⟩, fun j hj => (g _ (by omega)).2.trans (h4 j hj)⟩, fun j hj => g j (by omega)⟩
  · show rLst cy ad1 ct1 (140 + j) (144 + j) (150 + 5 * j) (vf_upd (mst M) i (zPc (mst M i) pc) j).1
    by_cases e : j = i
    · rw [e, vu_s, hz]; exact hl
    · rw [vu_n e]
      have h5 := (hk3 j hj).1
      exact (c3 j hj).mvg (g 0 (by omega)).1 (had _ (by omega) (by omega)) (hr _ (by omega) (by omega) (by omega) (by omega)) (hr _ (by omega) (by omega) (by omega) (by omega)) (fun k hk => had _ (by omega) (by omega))
  · have hk2 : k < (vf_upd (mst M) i (zPc (mst M i) pc) j).1 := hk
    show ct1 (150 + 5 * j + k) = some (.inl (cy 1, 4, aI (fI4 (fPc4 ((vf_upd (mst M) i (zPc (mst M i) pc) j).2.1 k)))))
    by_cases e : j = i
    · rw [e, vu_s, hz] at hk2 ⊢
      have hk3' : k < n + 1 := hk2
      by_cases e2 : k = n
      · rw [e2]
        show ct1 (150 + 5 * i + n) = some (.inl (cy 1, 4, aI (fI4 (fPc4 (vf_upd (mst M i).2.1 n pc n)))))
        rw [vu_s]; exact h1
      · show ct1 (150 + 5 * i + k) = some (.inl (cy 1, 4, aI (fI4 (fPc4 (vf_upd (mst M i).2.1 n pc k)))))
        rw [vu_n e2]
        exact (hr _ (by omega) (by omega) (by omega) (by omega)).trans (c4 i hi k (by rw [hn]; omega))
    · rw [vu_n e] at hk2 ⊢
      have h5 := (hk3 j hj).1
      exact (hr _ (by omega) (by omega) (by omega) (by omega)).trans (c4 j hj k hk2)
  · refine (g _ (by omega)).2.trans ((c5 j hj).trans (congrArg some ?_))
    have e : ad1 (if oState (mod M j) = 0 then 180 + j else 190 + j) = ad (if oState (mod M j) = 0 then 180 + j else 190 + j) := (g _ (by split <;> omega)).1
    show rOr ad j (mod M j) = rOr ad1 j (mod M j)
    unfold rOr
    rw [e]
  · have z2 : oState (mod M j) ≠ 0 := z
    show ct1 (190 + j) = some (.inl (cy 0, (vf_upd (mst M) i (zPc (mst M i) pc) (oS (mod M j))).1, aD (oBod (mod M j))))
    rw [vu_n (hno j hj)]
    exact (g _ (by omega)).2.trans ((c6 j hj).2 z2)
  · have b2 : i' < mS M → (vf_upd (mst M) i (zPc (mst M i) pc) i').1 ≤ j := b
    have key : i' = i → n + 1 ≤ j := fun e => by
      have := b2 (by omega)
      rw [e, vu_s, hz] at this
      exact this
    have hj1 : ¬ (150 + 5 * i' + j = 150 + 5 * i + n) := fun z => by
      have e : i' = i := by omega
      have := key e
      omega
    refine (hr _ (by omega) (by omega) (by omega) (by omega)).trans (g4 i' a j (fun w => ?_) d)
    by_cases e : i' = i
    · have := key e
      rw [e, hn]; omega
    · have := b2 w
      rw [vu_n e] at this
      exact this
/-- an order's own cell, its hand's, the shop's own -/
theorem bR_sew (h : lR cy ad ct M) (ho : okM M) {i kh : Nat} (hi : i < mO M) (hk : kh < mH M) (hst : oState (mod M i) = 1) (xh : Int32) (hs : ct1 100 = some (oMod ad M 0 sm)) (h1 : ct1 (170 + i) = some (rOr ad i (fSewO M i kh xh))) (h2 : ct1 105 = some (.inl (cy 0, 3, aD (fF (sHa M kh (fSewH M i kh)))))) (hr : ∀ k9, k9 ≠ 100 → k9 ≠ 105 → k9 ≠ 170 + i → ct1 k9 = ct k9) : lR cy ad ct1 (fSewM M i kh xh) ∧ kFl ad ad ct ct1 := by
  have hb := ho.1
  obtain ⟨-, q2, ⟨g1, g2, g3, g4, g5, g6, g7⟩, q4⟩ := h
  have hfP : fP (sHa M kh (fSewH M i kh)) = fP M := by
    funext j
    show (if j < mH M then fPace (vf_upd (mha M) kh (fSewH M i kh) j).1 else 0) = if j < mH M then fPace (mha M j).1 else 0
    by_cases e : j = kh
    · rw [e, vu_s]
    · rw [vu_n e]
  obtain ⟨c1, hc1⟩ : ∃ c1, c1 = up ct 105 (.inl (cy 0, 3, aD (fF (sHa M kh (fSewH M i kh))))) := ⟨_, rfl⟩
  have u1 : RepL0 cy ad c1 (sHa M kh (fSewH M i kh)) := by
    rw [hc1]
    exact RepL0_sHa q2 ho kh _ (fun j _ a b => up_n a) up_s ((up_n (by omega)).trans (by rw [hfP]; exact q2.2.1.2))
  have o1 := okM_sHa ho kh (fSewH M i kh) (ho.2.2.2.2.1 kh hk)
  obtain ⟨cm, k1, k2⟩ := no100 c1 ct1
  have hrm : ∀ j, j ≠ 170 + i → cm j = c1 j := fun j hj => by
    by_cases e : j = 100
    · rw [e]; exact k2
    · rw [k1 j e, hc1]
      by_cases e2 : j = 105
      · rw [e2, up_s]; exact h2
      · rw [up_n e2]; exact hr j e e2 hj
  have u2 : RepL0 cy ad cm (fSewM M i kh xh) := RepL0_sOr u1 o1 (i := i) hi (fSewO M i kh xh) (fun j a b c => ⟨rfl, hrm j a⟩) rfl ((k1 _ (by omega)).trans h1) (fun z => absurd z (show ¬ (2 : Nat) = 0 by decide)) (fun _ => (hrm _ (by omega)).trans ((u1.2.2.2.2.2.2.2.1 i hi).2 (by show oState (mod M i) ≠ 0; rw [hst]; decide)))
  refine ⟨⟨⟨0, sm, hs⟩, u2.up (fun j hj => (k1 j hj).symm), ⟨fun i' a b => (hr _ (by omega) (by omega) (by omega)).trans (g1 i' a b), fun i' a b => (hr _ (by omega) (by omega) (by omega)).trans (g2 i' a b), fun i' a b => ⟨(hr _ (by omega) (by omega) (by omega)).trans (g3 i' a b).1, (hr _ (by omega) (by omega) (by omega)).trans (g3 i' a b).2⟩, fun i' a j b d => (hr _ (by omega) (by omega) (by omega)).trans (g4 i' a j b d), fun i' (a : mO M ≤ i') b => ⟨(hr _ (by omega) (by omega) (by omega)).trans (g5 i' a b).1, (hr _ (by omega) (by omega) (by omega)).trans (g5 i' a b).2⟩, fun i' a b => (hr _ (by omega) (by omega) (by omega)).trans (g6 i' a (fun z => ?_)), fun j a => (hr _ (by omega) (by omega) (by omega)).trans (g7 j a)⟩, fun j hj => (hr j (by omega) (by omega) (by omega)).trans (q4 j hj)⟩, fun j hj => ⟨rfl, hr j (by omega) (by omega) (by omega)⟩⟩
  have b2 : oState (vf_upd (mod M) i (fSewO M i kh xh) i') = 0 := b z
  by_cases e : i' = i
  · rw [e, vu_s] at b2
    exact absurd b2 (show ¬ (2 : Nat) = 0 by decide)
  · rw [vu_n e] at b2; exact b2
theorem bR_shOr (h : lR cy ad ct M) (ho : okM M) {i : Nat} (hi : i < mO M) (s : tSh) (o : tOr) (hst : oState (mod M i) ≠ 0) (hso : oState o ≠ 0) (hS : oS o = oS (mod M i)) (hob : oBod o = oBod (mod M i)) (hs : ct1 100 = some (oMod ad (sSh M s) 0 sm)) (h1 : ct1 (170 + i) = some (rOr ad i o)) (hr : ∀ k9, k9 ≠ 100 → k9 ≠ 170 + i → ct1 k9 = ct k9) : lR cy ad ct1 (sOr (sSh M s) i o) ∧ kFl ad ad ct ct1 := by
  have hb := ho.1
  obtain ⟨-, q2, ⟨g1, g2, g3, g4, g5, g6, g7⟩, q4⟩ := h
  obtain ⟨cm, k1, k2⟩ := no100 ct ct1
  have hrm : ∀ j, j ≠ 170 + i → cm j = ct j := fun j hj => c100 k1 k2 (X := fun j => j ≠ 170 + i) hr j hj
  have u2 : RepL0 cy ad cm (sOr (sSh M s) i o) := RepL0_sOr (RepL0_sSh s q2) (okM_sSh ho s) (i := i) hi o (fun j a b c => ⟨rfl, hrm j a⟩) rfl ((k1 _ (by omega)).trans h1) (fun z => absurd z hso) (fun _ => (hrm _ (by omega)).trans (by rw [hS, hob]; exact (q2.2.2.2.2.2.2.2.1 i hi).2 hst))
  refine ⟨⟨⟨0, sm, hs⟩, u2.up (fun j hj => (k1 j hj).symm), ⟨fun i' a b => (hr _ (by omega) (by omega)).trans (g1 i' a b), fun i' a b => (hr _ (by omega) (by omega)).trans (g2 i' a b), fun i' a b => ⟨(hr _ (by omega) (by omega)).trans (g3 i' a b).1, (hr _ (by omega) (by omega)).trans (g3 i' a b).2⟩, fun i' a j b d => (hr _ (by omega) (by omega)).trans (g4 i' a j b d), fun i' (a : mO M ≤ i') b => ⟨(hr _ (by omega) (by omega)).trans (g5 i' a b).1, (hr _ (by omega) (by omega)).trans (g5 i' a b).2⟩, fun i' a b => (hr _ (by omega) (by omega)).trans (g6 i' a (fun z => ?_)), fun j a => (hr _ (by omega) (by omega)).trans (g7 j a)⟩, fun j hj => (hr j (by omega) (by omega)).trans (q4 j hj)⟩, fun j hj => ⟨rfl, hr j (by omega) (by omega)⟩⟩
  have b2 : oState (vf_upd (mod M) i o i') = 0 := b z
  by_cases e : i' = i
  · rw [e, vu_s] at b2
    exact absurd b2 hso
  · rw [vu_n e] at b2; exact b2
theorem bR_cut (h : lR cy ad ct M) (ho : okM M) {i jc : Nat} (hi : i < mO M) (hc : jc < mC M) {nd nk : UInt64} {o : Option Nat} (hoo : ∀ i2, o = some i2 → i2 < mO M) (had : ∀ j, j ≠ 190 + i → (∀ i2, o = some i2 → j ≠ 190 + i2) → ad1 j = ad j) (hs : ct1 100 = some (oMod ad1 (fC4 M i jc nd nk o) 0 sm)) (h1 : RepL0 cy ad1 ct1 (fC4 M i jc nd nk o)) (hr : ∀ k9, k9 ≠ 100 → k9 ≠ 120 + jc → k9 ≠ 170 + i → k9 ≠ 190 + i → (∀ i2, o = some i2 → k9 ≠ 170 + i2 ∧ k9 ≠ 190 + i2) → ct1 k9 = ct k9) : lR cy ad1 ct1 (fC4 M i jc nd nk o) ∧ kFl ad ad1 ct ct1 := by
  have hb := ho.1
  obtain ⟨-, -, ⟨g1, g2, g3, g4, g5, g6, g7⟩, q4⟩ := h
  have q : ∀ k, k ≠ 100 → k ≠ 120 + jc → (k < 170 ∨ (178 ≤ k ∧ k < 190) ∨ 198 ≤ k) → ct1 k = ct k := fun k a b c => hr k a b (by omega) (by omega) (fun i2 e => by have := hoo i2 e; omega)
  refine ⟨⟨⟨0, sm, hs⟩, h1, ?_, fun j hj => (q j (by omega) (by omega) (by omega)).trans (q4 j hj)⟩, fun j hj => ⟨had j (by omega) (fun i2 e => by omega), q j (by omega) (by omega) (by omega)⟩⟩
  have c6 : ∀ i', i' < 8 → (i' < mO M → i' ≠ i ∧ (∀ i2, o = some i2 → i' ≠ i2) ∧ oState (mod M i') = 0) → ct1 (190 + i') = none := fun i' a b => by
    by_cases z : i' < mO M
    · obtain ⟨b1, b2, b3⟩ := b z
      exact (hr _ (by omega) (by omega) (by omega) (by omega) (fun i2 e => by have := b2 i2 e; have := hoo i2 e; omega)).trans (g6 i' a (fun _ => b3))
    · exact (hr _ (by omega) (by omega) (by omega) (by omega) (fun i2 e => by have := hoo i2 e; omega)).trans (g6 i' a (fun y => absurd y z))
  have key : (∀ i', mC M ≤ i' → i' < 4 → ct1 (120 + i') = none) ∧ (∀ i', mP M ≤ i' → i' < 6 → ct1 (130 + i') = none) ∧ (∀ i', mS M ≤ i' → i' < 3 → ct1 (140 + i') = none ∧ ct1 (144 + i') = none) ∧ (∀ i', i' < 3 → ∀ j, (i' < mS M → (mst M i').1 ≤ j) → j < 5 → ct1 (150 + 5 * i' + j) = none) ∧ (∀ i', mO M ≤ i' → i' < 8 → ct1 (170 + i') = none ∧ ct1 (180 + i') = none) :=
    ⟨fun i' a b => (q _ (by omega) (by omega) (by omega)).trans (g1 i' a b), fun i' a b => (q _ (by omega) (by omega) (by omega)).trans (g2 i' a b), fun i' a b => ⟨(q _ (by omega) (by omega) (by omega)).trans (g3 i' a b).1, (q _ (by omega) (by omega) (by omega)).trans (g3 i' a b).2⟩, fun i' a j b d => (q _ (by omega) (by omega) (by omega)).trans (g4 i' a j b d), fun i' a b => ⟨(hr _ (by omega) (by omega) (by omega) (by omega) (fun i2 e => by have := hoo i2 e; omega)).trans (g5 i' a b).1, (q _ (by omega) (by omega) (by omega)).trans (g5 i' a b).2⟩⟩
  obtain ⟨k1, k2, k3, k4, k5⟩ := key
  have k7 : ∀ j, 200 ≤ j → ct1 j = none := fun j a => (q _ (by omega) (by omega) (by omega)).trans (g7 j a)
  cases o with
  | none =>
    refine ⟨k1, k2, k3, k4, k5, fun i' a b => c6 i' a (fun z => ?_), k7⟩
    have b2 : oState (vf_upd (mod M) i (fCut (fC1 M jc nd) i (nI jc) (fCost (mcl M jc).2.2.2.2.2 nk) nk) i') = 0 := b z
    by_cases e : i' = i
    · rw [e, vu_s] at b2
      exact absurd b2 (show ¬ (1 : Nat) = 0 by decide)
    · rw [vu_n e] at b2
      exact ⟨e, (fun i2 y => nomatch y), b2⟩
  | some i2 =>
    refine ⟨k1, k2, k3, k4, k5, fun i' a b => c6 i' a (fun z => ?_), k7⟩
    have b2 : oState (vf_upd (mod (fC2 M i jc nd nk)) i2 (fCut (fC2 M i jc nd nk) i2 (nI jc) (fCost (mcl M jc).2.2.2.2.2 nk) nk) i') = 0 := b z
    by_cases e : i' = i2
    · rw [e, vu_s] at b2
      exact absurd b2 (show ¬ (1 : Nat) = 0 by decide)
    · rw [vu_n e] at b2
      have b3 : oState (vf_upd (mod M) i (fCut (fC1 M jc nd) i (nI jc) (fCost (mcl M jc).2.2.2.2.2 nk) nk) i') = 0 := b2
      by_cases e2 : i' = i
      · rw [e2, vu_s] at b3
        exact absurd b3 (show ¬ (1 : Nat) = 0 by decide)
      · rw [vu_n e2] at b3
        exact ⟨e2, (fun i3 y => by cases y; exact e), b3⟩
end BREG
