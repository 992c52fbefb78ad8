/-! the reference's side behind each call -/
section BREF
variable {cy : Nat → ClassId} {ad ad1 : Nat → Nat} {ct ct1 : Nat → Option va_E} {M : tM} {sm : Int64}
/-- what isn't the reference's is as it was -/
def kFl (ad ad1 : Nat → Nat) (ct ct1 : Nat → Option va_E) : Prop := ∀ j, j < 100 → ad1 j = ad j ∧ ct1 j = ct j
theorem oMod_6 {th : Int32} (hx : ∀ j, 101 ≤ j → j ≤ 106 → ad1 j = ad j) : oMod ad M th sm = oMod ad1 M th sm := by
  unfold oMod
  rw [hx 101 (by omega) (by omega), hx 102 (by omega) (by omega), hx 103 (by omega) (by omega), hx 104 (by omega) (by omega), hx 105 (by omega) (by omega), hx 106 (by omega) (by omega)]
theorem no100 (ct ct1 : Nat → Option va_E) : ∃ cm : Nat → Option va_E, (∀ j, j ≠ 100 → cm j = ct1 j) ∧ cm 100 = ct 100 := ⟨fun j => if j = 100 then ct 100 else ct1 j, fun _ h => if_neg h, if_pos rfl⟩
theorem c100 {cm : Nat → Option va_E} (h1 : ∀ j, j ≠ 100 → cm j = ct1 j) (h2 : cm 100 = ct 100) {X : Nat → Prop} (hr : ∀ j, j ≠ 100 → X j → ct1 j = ct j) (j : Nat) (x : X j) : cm j = ct j := by
  by_cases e : j = 100
  · rw [e]; exact h2
  · exact (h1 j e).trans (hr j e x)
theorem bR_same (h : lR cy ad ct M) {th : Int32} (h1 : ct1 100 = some (oMod ad M th sm)) (hk : ∀ k, k ≠ 100 → ct1 k = ct k) : lR cy ad ct1 M ∧ kFl ad ad ct ct1 := ⟨h.th h1 hk, fun j hj => ⟨rfl, hk j (by omega)⟩⟩

theorem bR_cloth (h : lR cy ad ct M) (ho : okM M) (c : tCl) (hm : mC M < 4) (had : ∀ j, j ≠ 111 → j ≠ 120 + mC M → ad1 j = ad j) (hl : rLst cy ad1 ct1 101 111 120 (mC M + 1)) (h1 : ct1 (120 + mC M) = some (rCl c)) (hs : ct1 100 = some (oMod ad M 0 sm)) (hr : ∀ k9, k9 ≠ 100 → k9 ≠ 101 → k9 ≠ 111 → k9 ≠ 120 + mC M → ct1 k9 = ct k9) : lR cy ad1 ct1 (aCl M c) ∧ kFl ad ad1 ct ct1 := by
  have hb := ho.1
  obtain ⟨-, h2, ⟨g1, g2, g3, g4, g5, g6, g7⟩, h4⟩ := h
  refine ⟨⟨⟨0, sm, hs.trans (congrArg some (oMod_6 (M := M) (fun j a b => had j (by omega) (by omega))))⟩, RepL0_aCl h2 ho c hm (fun j _ a b => had j a b) hl h1 (fun j _ a b c d => hr j a b c d), ⟨?_, ?_, ?_, ?_, ?_, ?_, ?_⟩, fun j hj => (hr j (by omega) (by omega) (by omega) (by omega)).trans (h4 j hj)⟩, fun j hj => ⟨had j (by omega) (by omega), hr j (by omega) (by omega) (by omega) (by omega)⟩⟩
  · intro i' a b
    have a2 : mC M + 1 ≤ i' := a
    exact (hr _ (by omega) (by omega) (by omega) (by omega)).trans (g1 i' (by omega) b)
  · intro i' a b
    exact (hr _ (by omega) (by omega) (by omega) (by omega)).trans (g2 i' a b)
  · intro i' a b
    exact ⟨(hr _ (by omega) (by omega) (by omega) (by omega)).trans (g3 i' a b).1, (hr _ (by omega) (by omega) (by omega) (by omega)).trans (g3 i' a b).2⟩
  · intro i' a j b d
    exact (hr _ (by omega) (by omega) (by omega) (by omega)).trans (g4 i' a j b d)
  · intro i' a b
    exact ⟨(hr _ (by omega) (by omega) (by omega) (by omega)).trans (g5 i' a b).1, (hr _ (by omega) (by omega) (by omega) (by omega)).trans (g5 i' a b).2⟩
  · intro i' a b
    exact (hr _ (by omega) (by omega) (by omega) (by omega)).trans (g6 i' a b)
  · intro j a
    exact (hr _ (by omega) (by omega) (by omega) (by omega)).trans (g7 j a)

theorem bR_person (h : lR cy ad ct M) (ho : okM M) (f : Nat → Nat) (hm : mP M < 6) (had : ∀ j, j ≠ 112 → j ≠ 130 + mP M → ad1 j = ad j) (hl : rLst cy ad1 ct1 102 112 130 (mP M + 1)) (h1 : ct1 (130 + mP M) = some (.inl (cy 1, 4, aI (fI4 f)))) (hs : ct1 100 = some (oMod ad M 0 sm)) (hr : ∀ k9, k9 ≠ 100 → k9 ≠ 102 → k9 ≠ 112 → k9 ≠ 130 + mP M → ct1 k9 = ct k9) : lR cy ad1 ct1 (aPe M f) ∧ kFl ad ad1 ct ct1 := by
  have hb := ho.1
  obtain ⟨-, h2, ⟨g1, g2, g3, g4, g5, g6, g7⟩, h4⟩ := h
  refine ⟨⟨⟨0, sm, hs.trans (congrArg some (oMod_6 (M := M) (fun j a b => had j (by omega) (by omega))))⟩, RepL0_aPe h2 ho f hm (fun j _ a b => had j a b) hl h1 (fun j _ a b c d => hr j a b c d), ⟨?_, ?_, ?_, ?_, ?_, ?_, ?_⟩, fun j hj => (hr j (by omega) (by omega) (by omega) (by omega)).trans (h4 j hj)⟩, fun j hj => ⟨had j (by omega) (by omega), hr j (by omega) (by omega) (by omega) (by omega)⟩⟩
  · intro i' a b
    exact (hr _ (by omega) (by omega) (by omega) (by omega)).trans (g1 i' a b)
  · intro i' a b
    have a2 : mP M + 1 ≤ i' := a
    exact (hr _ (by omega) (by omega) (by omega) (by omega)).trans (g2 i' (by omega) b)
  · intro i' a b
    exact ⟨(hr _ (by omega) (by omega) (by omega) (by omega)).trans (g3 i' a b).1, (hr _ (by omega) (by omega) (by omega) (by omega)).trans (g3 i' a b).2⟩
  · intro i' a j b d
    exact (hr _ (by omega) (by omega) (by omega) (by omega)).trans (g4 i' a j b d)
  · intro i' a b
    exact ⟨(hr _ (by omega) (by omega) (by omega) (by omega)).trans (g5 i' a b).1, (hr _ (by omega) (by omega) (by omega) (by omega)).trans (g5 i' a b).2⟩
  · intro i' a b
    exact (hr _ (by omega) (by omega) (by omega) (by omega)).trans (g6 i' a b)
  · intro j a
    exact (hr _ (by omega) (by omega) (by omega) (by omega)).trans (g7 j a)

theorem bR_style (h : lR cy ad ct M) (ho : okM M) (hm : mS M < 3) (had : ∀ j, j ≠ 113 → j ≠ 140 + mS M → ad1 j = ad j) (hl : rLst cy ad1 ct1 103 113 140 (mS M + 1)) (h1 : ct1 (140 + mS M) = some (oLs (ad1 0) 0)) (hs : ct1 100 = some (oMod ad M 0 sm)) (hr : ∀ k9, k9 ≠ 100 → k9 ≠ 103 → k9 ≠ 113 → k9 ≠ 140 + mS M → ct1 k9 = ct k9) : lR cy ad1 ct1 (aSt M zSt) ∧ kFl ad ad1 ct ct1 := by
  have hb := ho.1
  obtain ⟨-, h2, ⟨g1, g2, g3, g4, g5, g6, g7⟩, h4⟩ := h
  refine ⟨⟨⟨0, sm, hs.trans (congrArg some (oMod_6 (M := M) (fun j a b => had j (by omega) (by omega))))⟩, RepL0_aSt h2 ho zSt rfl hm (fun j _ a b => had j a b) hl h1 ((hr _ (by omega) (by omega) (by omega) (by omega)).trans (g3 _ (Nat.le_refl _) hm).2) (fun j _ a b c d => hr j a b c d), ⟨?_, ?_, ?_, ?_, ?_, ?_, ?_⟩, fun j hj => (hr j (by omega) (by omega) (by omega) (by omega)).trans (h4 j hj)⟩, fun j hj => ⟨had j (by omega) (by omega), hr j (by omega) (by omega) (by omega) (by omega)⟩⟩
  · intro i' a b
    exact (hr _ (by omega) (by omega) (by omega) (by omega)).trans (g1 i' a b)
  · intro i' a b
    exact (hr _ (by omega) (by omega) (by omega) (by omega)).trans (g2 i' a b)
  · intro i' a b
    have a2 : mS M + 1 ≤ i' := a
    exact ⟨(hr _ (by omega) (by omega) (by omega) (by omega)).trans (g3 i' (by omega) b).1, (hr _ (by omega) (by omega) (by omega) (by omega)).trans (g3 i' (by omega) b).2⟩
  · intro i' a j b d
    refine (hr _ (by omega) (by omega) (by omega) (by omega)).trans (g4 i' a j (fun z => ?_) d)
    have b2 : (vf_upd (mst M) (mS M) zSt i').1 ≤ j := b (Nat.lt_succ_of_lt z)
    rw [vu_n (by omega)] at b2
    exact b2
  · intro i' a b
    exact ⟨(hr _ (by omega) (by omega) (by omega) (by omega)).trans (g5 i' a b).1, (hr _ (by omega) (by omega) (by omega) (by omega)).trans (g5 i' a b).2⟩
  · intro i' a b
    exact (hr _ (by omega) (by omega) (by omega) (by omega)).trans (g6 i' a b)
  · intro j a
    exact (hr _ (by omega) (by omega) (by omega) (by omega)).trans (g7 j a)

theorem bR_hand (h : lR cy ad ct M) (ho : okM M) (f : tHa) (hm : mH M < 3) (hfF : fF (aHa M f) = fF M) (h1 : ct1 106 = some (.inl (cy 2, 3, aF (fP (aHa M f))))) (hs : ct1 100 = some (oMod ad (aHa M f) 0 sm)) (hr : ∀ k9, k9 ≠ 100 → k9 ≠ 106 → ct1 k9 = ct k9) : lR cy ad ct1 (aHa M f) ∧ kFl ad ad ct ct1 := by
  have hb := ho.1
  obtain ⟨cm, k1, k2⟩ := no100 ct ct1
  obtain ⟨-, h2, ⟨g1, g2, g3, g4, g5, g6, g7⟩, h4⟩ := h
  refine ⟨⟨⟨0, sm, hs⟩, (RepL0_aHa h2 ho f (fun j _ _ b => c100 k1 k2 (X := fun j => j ≠ 106) hr j b) ((k1 105 (by omega)).trans ((hr 105 (by omega) (by omega)).trans (by rw [hfF]; exact h2.2.1.1))) ((k1 106 (by omega)).trans h1)).up (fun j hj => (k1 j hj).symm), ⟨?_, ?_, ?_, ?_, ?_, ?_, ?_⟩, fun j hj => (hr j (by omega) (by omega)).trans (h4 j hj)⟩, fun j hj => ⟨rfl, hr j (by omega) (by omega)⟩⟩
  · intro i' a b
    exact (hr _ (by omega) (by omega)).trans (g1 i' a b)
  · intro i' a b
    exact (hr _ (by omega) (by omega)).trans (g2 i' a b)
  · intro i' a b
    exact ⟨(hr _ (by omega) (by omega)).trans (g3 i' a b).1, (hr _ (by omega) (by omega)).trans (g3 i' a b).2⟩
  · intro i' a j b d
    exact (hr _ (by omega) (by omega)).trans (g4 i' a j b d)
  · intro i' a b
    exact ⟨(hr _ (by omega) (by omega)).trans (g5 i' a b).1, (hr _ (by omega) (by omega)).trans (g5 i' a b).2⟩
  · intro i' a b
    exact (hr _ (by omega) (by omega)).trans (g6 i' a b)
  · intro j a
    exact (hr _ (by omega) (by omega)).trans (g7 j a)

theorem bR_take (h : lR cy ad ct M) (ho : okM M) {q i : Nat} (hq : q < mP M) (hi : i < mS M) (hm : mO M < 8) (hp : 0 < (mst M i).1) (du : Int32) (had : ∀ j, j ≠ 114 → j ≠ 170 + mO M → j ≠ 180 + mO M → ad1 j = ad j) (hl : rLst cy ad1 ct1 104 114 170 (mO M + 1)) (h1 : ct1 (170 + mO M) = some (rOr ad1 (mO M) (q, i, du, 0, -1, 0, -1, cM1, -1, cD0, fun _ => 0))) (hz : ct1 (180 + mO M) = some (.inl (cy 0, 0, aD (fun _ => 0)))) (hs : ct1 100 = some (oMod ad M 0 sm)) (hr : ∀ k9, k9 ≠ 100 → k9 ≠ 104 → k9 ≠ 114 → k9 ≠ 170 + mO M → k9 ≠ 180 + mO M → ct1 k9 = ct k9) : lR cy ad1 ct1 (fTakeM M q i du) ∧ kFl ad ad1 ct ct1 := by
  have hb := ho.1
  obtain ⟨-, h2, ⟨g1, g2, g3, g4, g5, g6, g7⟩, h4⟩ := h
  refine ⟨⟨⟨0, sm, hs.trans (congrArg some (oMod_6 (M := M) (fun j a b => had j (by omega) (by omega) (by omega))))⟩, RepL0_flag (RepL0_aOr h2 ho (q, i, du, 0, -1, 0, -1, cM1, -1, cD0, fun _ => 0) hm rfl (fun j _ a b c => had j a b c) hl h1 hz (fun j _ a b c d e => hr j a b c d e)) i _ rfl rfl, ⟨?_, ?_, ?_, ?_, ?_, ?_, ?_⟩, fun j hj => (hr j (by omega) (by omega) (by omega) (by omega) (by omega)).trans (h4 j hj)⟩, fun j hj => ⟨had j (by omega) (by omega) (by omega), hr j (by omega) (by omega) (by omega) (by omega) (by omega)⟩⟩
  · intro i' a b
    exact (hr _ (by omega) (by omega) (by omega) (by omega) (by omega)).trans (g1 i' a b)
  · intro i' a b
    exact (hr _ (by omega) (by omega) (by omega) (by omega) (by omega)).trans (g2 i' a b)
  · intro i' a b
    exact ⟨(hr _ (by omega) (by omega) (by omega) (by omega) (by omega)).trans (g3 i' a b).1, (hr _ (by omega) (by omega) (by omega) (by omega) (by omega)).trans (g3 i' a b).2⟩
  · intro i' a j b d
    refine (hr _ (by omega) (by omega) (by omega) (by omega) (by omega)).trans (g4 i' a j (fun z => ?_) d)
    have b2 : (vf_upd (mst M) i ((mst M i).1, (mst M i).2.1, 1) i').1 ≤ j := b z
    by_cases e : i' = i
    · rw [e, vu_s] at b2; rw [e]; exact b2
    · rw [vu_n e] at b2; exact b2
  · intro i' a b
    have a2 : mO M + 1 ≤ i' := a
    exact ⟨(hr _ (by omega) (by omega) (by omega) (by omega) (by omega)).trans (g5 i' (by omega) b).1, (hr _ (by omega) (by omega) (by omega) (by omega) (by omega)).trans (g5 i' (by omega) b).2⟩
  · intro i' a b
    refine (hr _ (by omega) (by omega) (by omega) (by omega) (by omega)).trans (g6 i' a (fun z => ?_))
    have b2 : oState (vf_upd (mod M) (mO M) (q, i, du, 0, -1, 0, -1, cM1, -1, cD0, fun _ => 0) i') = 0 := b (Nat.lt_succ_of_lt z)
    rw [vu_n (by omega)] at b2
    exact b2
  · intro j a
    exact (hr _ (by omega) (by omega) (by omega) (by omega) (by omega)).trans (g7 j a)

theorem bR_sCl (h : lR cy ad ct M) (ho : okM M) {k : Nat} (hk : k < mC M) (c : tCl) (h1 : ct1 (120 + k) = some (rCl c)) (hs : ct1 100 = some (oMod ad M 0 sm)) (hr : ∀ k9, k9 ≠ 100 → k9 ≠ 120 + k → ct1 k9 = ct k9) : lR cy ad ct1 (sCl M k c) ∧ kFl ad ad ct ct1 := by
  have hb := ho.1
  obtain ⟨cm, k1, k2⟩ := no100 ct ct1
  obtain ⟨-, h2, ⟨g1, g2, g3, g4, g5, g6, g7⟩, h4⟩ := h
  refine ⟨⟨⟨0, sm, hs⟩, (RepL0_sCl h2 ho hk c (fun j _ => ⟨rfl, fun e => c100 k1 k2 (X := fun j => j ≠ 120 + k) hr j e⟩) ((k1 _ (by omega)).trans h1)).up (fun j hj => (k1 j hj).symm), ⟨?_, ?_, ?_, ?_, ?_, ?_, ?_⟩, fun j hj => (hr j (by omega) (by omega)).trans (h4 j hj)⟩, fun j hj => ⟨rfl, hr j (by omega) (by omega)⟩⟩
  · intro i' a b
    have a2 : mC M ≤ i' := a
    exact (hr _ (by omega) (by omega)).trans (g1 i' (by omega) b)
  · intro i' a b
    exact (hr _ (by omega) (by omega)).trans (g2 i' a b)
  · intro i' a b
    exact ⟨(hr _ (by omega) (by omega)).trans (g3 i' a b).1, (hr _ (by omega) (by omega)).trans (g3 i' a b).2⟩
  · intro i' a j b d
    exact (hr _ (by omega) (by omega)).trans (g4 i' a j b d)
  · intro i' a b
    exact ⟨(hr _ (by omega) (by omega)).trans (g5 i' a b).1, (hr _ (by omega) (by omega)).trans (g5 i' a b).2⟩
  · intro i' a b
    exact (hr _ (by omega) (by omega)).trans (g6 i' a b)
  · intro j a
    exact (hr _ (by omega) (by omega)).trans (g7 j a)

theorem bR_sPe (h : lR cy ad ct M) (ho : okM M) {k : Nat} (hk : k < mP M) (f : Nat → Nat) (h1 : ct1 (130 + k) = some (.inl (cy 1, 4, aI (fI4 f)))) (hs : ct1 100 = some (oMod ad M 0 sm)) (hr : ∀ k9, k9 ≠ 100 → k9 ≠ 130 + k → ct1 k9 = ct k9) : lR cy ad ct1 (sPe M k f) ∧ kFl ad ad ct ct1 := by
  have hb := ho.1
  obtain ⟨cm, k1, k2⟩ := no100 ct ct1
  obtain ⟨-, h2, ⟨g1, g2, g3, g4, g5, g6, g7⟩, h4⟩ := h
  refine ⟨⟨⟨0, sm, hs⟩, (RepL0_sPe h2 ho hk f (fun j _ => ⟨rfl, fun e => c100 k1 k2 (X := fun j => j ≠ 130 + k) hr j e⟩) ((k1 _ (by omega)).trans h1)).up (fun j hj => (k1 j hj).symm), ⟨?_, ?_, ?_, ?_, ?_, ?_, ?_⟩, fun j hj => (hr j (by omega) (by omega)).trans (h4 j hj)⟩, fun j hj => ⟨rfl, hr j (by omega) (by omega)⟩⟩
  · intro i' a b
    exact (hr _ (by omega) (by omega)).trans (g1 i' a b)
  · intro i' a b
    have a2 : mP M ≤ i' := a
    exact (hr _ (by omega) (by omega)).trans (g2 i' (by omega) b)
  · intro i' a b
    exact ⟨(hr _ (by omega) (by omega)).trans (g3 i' a b).1, (hr _ (by omega) (by omega)).trans (g3 i' a b).2⟩
  · intro i' a j b d
    exact (hr _ (by omega) (by omega)).trans (g4 i' a j b d)
  · intro i' a b
    exact ⟨(hr _ (by omega) (by omega)).trans (g5 i' a b).1, (hr _ (by omega) (by omega)).trans (g5 i' a b).2⟩
  · intro i' a b
    exact (hr _ (by omega) (by omega)).trans (g6 i' a b)
  · intro j a
    exact (hr _ (by omega) (by omega)).trans (g7 j a)

theorem bR_sSh (h : lR cy ad ct M) (ho : okM M) (s : tSh) (hs : ct1 100 = some (oMod ad (sSh M s) 0 sm)) (hr : ∀ k9, k9 ≠ 100 → ct1 k9 = ct k9) : lR cy ad ct1 (sSh M s) ∧ kFl ad ad ct ct1 := by
  have hb := ho.1
  obtain ⟨-, h2, ⟨g1, g2, g3, g4, g5, g6, g7⟩, h4⟩ := h
  refine ⟨⟨⟨0, sm, hs⟩, RepL0_sSh s (h2.up (fun j hj => hr j hj)), ⟨?_, ?_, ?_, ?_, ?_, ?_, ?_⟩, fun j hj => (hr j (by omega) ).trans (h4 j hj)⟩, fun j hj => ⟨rfl, hr j (by omega) ⟩⟩
  · intro i' a b
    exact (hr _ (by omega) ).trans (g1 i' a b)
  · intro i' a b
    exact (hr _ (by omega) ).trans (g2 i' a b)
  · intro i' a b
    exact ⟨(hr _ (by omega) ).trans (g3 i' a b).1, (hr _ (by omega) ).trans (g3 i' a b).2⟩
  · intro i' a j b d
    exact (hr _ (by omega) ).trans (g4 i' a j b d)
  · intro i' a b
    exact ⟨(hr _ (by omega) ).trans (g5 i' a b).1, (hr _ (by omega) ).trans (g5 i' a b).2⟩
  · intro i' a b
    exact (hr _ (by omega) ).trans (g6 i' a b)
  · intro j a
    exact (hr _ (by omega) ).trans (g7 j a)
end BREF
