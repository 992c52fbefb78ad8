/-! the class's side behind each call -/
section BCLS
variable {cy : Nat → ClassId} {ad ad1 : Nat → Nat} {ct ct1 : Nat → Option va_E} {M : tM}
/-- what isn't the class's is as it was -/
def kFr (ad ad1 : Nat → Nat) (ct ct1 : Nat → Option va_E) : Prop := ∀ j, (j = 0 ∨ 80 ≤ j) → ad1 j = ad j ∧ ct1 j = ct j
theorem kFr.rf : kFr ad ad ct ct := fun _ _ => ⟨rfl, rfl⟩
theorem RepT.mvt {tb : tTb} {fl fw fh fr : Nat → UInt64} (h : RepT cy ad ct tb fl fw fh fr) (hx : ∀ j, 7 ≤ j → j ≤ 11 → ad1 j = ad j ∧ ct1 j = ct j) : RepT cy ad1 ct1 tb fl fw fh fr := by
  obtain ⟨h7, h8, h9, h10, h11⟩ := h
  refine ⟨(hx 7 (by omega) (by omega)).2.trans (h7.trans (congrArg some ?_)), (hx 8 (by omega) (by omega)).2.trans h8, (hx 9 (by omega) (by omega)).2.trans h9, (hx 10 (by omega) (by omega)).2.trans h10, (hx 11 (by omega) (by omega)).2.trans h11⟩
  unfold oTab
  rw [(hx 8 (by omega) (by omega)).1, (hx 9 (by omega) (by omega)).1, (hx 10 (by omega) (by omega)).1, (hx 11 (by omega) (by omega)).1]
theorem bC_cloth (h : lC cy ad ct M) (ho : okM M) (c : tCl) (hm : mC M < 4) (had : ∀ j, j ≠ 16 + mC M → ad1 j = ad j) (hz : ct1 (16 + mC M) = some (oCl c)) (ha : ct1 2 = some (.inl (cy 4, 4, aQ (va_up (kqs ad 16 (mC M)) (mC M) (some (ad1 (16 + mC M))))))) (hq : ct1 1 = some (oShop ad (aCl M c))) (hr : ∀ j, j ≠ 1 → j ≠ 2 → j ≠ 16 + mC M → ct1 j = ct j) : lC cy ad1 ct1 (aCl M c) ∧ kFr ad ad1 ct ct1 := by
  obtain ⟨h1, h2, tb, fl, fw, fh, fr, h3⟩ := h
  exact ⟨⟨RepC_aCl h1 ho hm (h2.1 _ (Nat.le_refl _) hm) c hz ha hq hr had, FreeC_aCl h2 ho c hm hr, tb, fl, fw, fh, fr, h3.mvt (fun j a b => ⟨had j (by omega), hr j (by omega) (by omega) (by omega)⟩)⟩, fun j hj => ⟨had j (by omega), hr j (by omega) (by omega) (by omega)⟩⟩
theorem bC_person (h : lC cy ad ct M) (ho : okM M) (f : Nat → Nat) (hm : mP M < 6) (had : ∀ j, j ≠ 24 + mP M → ad1 j = ad j) (hz : ct1 (24 + mP M) = some (oPer (nI (mP M)) f)) (ha : ct1 3 = some (.inl (cy 5, 6, aQ (va_up (kqs ad 24 (mP M)) (mP M) (some (ad1 (24 + mP M))))))) (hq : ct1 1 = some (oShop ad (aPe M f))) (hr : ∀ j, j ≠ 1 → j ≠ 3 → j ≠ 24 + mP M → ct1 j = ct j) : lC cy ad1 ct1 (aPe M f) ∧ kFr ad ad1 ct ct1 := by
  obtain ⟨h1, h2, tb, fl, fw, fh, fr, h3⟩ := h
  exact ⟨⟨RepC_aPe h1 ho hm (h2.2.1 _ (Nat.le_refl _) hm) f hz ha hq hr had, FreeC_aPe h2 ho f hm hr, tb, fl, fw, fh, fr, h3.mvt (fun j a b => ⟨had j (by omega), hr j (by omega) (by omega) (by omega)⟩)⟩, fun j hj => ⟨had j (by omega), hr j (by omega) (by omega) (by omega)⟩⟩
theorem bC_style (h : lC cy ad ct M) (ho : okM M) (hm : mS M < 3) (had : ∀ j, j ≠ 32 + mS M → j ≠ 36 + mS M → ad1 j = ad j) (hz : ct1 (32 + mS M) = some (oSt ad1 (mS M) zSt)) (hy : ct1 (36 + mS M) = some (.inl (cy 9, 5, aQ (fun _ => none)))) (ha : ct1 4 = some (.inl (cy 6, 3, aQ (va_up (kqs ad 32 (mS M)) (mS M) (some (ad1 (32 + mS M))))))) (hq : ct1 1 = some (oShop ad (aSt M zSt))) (hr : ∀ j, j ≠ 1 → j ≠ 4 → j ≠ 32 + mS M → j ≠ 36 + mS M → ct1 j = ct j) : lC cy ad1 ct1 (aSt M zSt) ∧ kFr ad ad1 ct ct1 := by
  obtain ⟨h1, h2, tb, fl, fw, fh, fr, h3⟩ := h
  exact ⟨⟨RepC_aSt h1 ho hm (h2.2.2.1 _ (Nat.le_refl _) hm) zSt hz hy rfl ha hq hr had, FreeC_aSt h2 ho zSt hm hr, tb, fl, fw, fh, fr, h3.mvt (fun j a b => ⟨had j (by omega) (by omega), hr j (by omega) (by omega) (by omega) (by omega)⟩)⟩, fun j hj => ⟨had j (by omega) (by omega), hr j (by omega) (by omega) (by omega) (by omega)⟩⟩
theorem bC_hand (h : lC cy ad ct M) (ho : okM M) (f : tHa) (hm : mH M < 3) (had : ∀ j, j ≠ 56 + mH M → ad1 j = ad j) (hz : ct1 (56 + mH M) = some (oHa f)) (ha : ct1 5 = some (.inl (cy 7, 3, aQ (va_up (kqs ad 56 (mH M)) (mH M) (some (ad1 (56 + mH M))))))) (hq : ct1 1 = some (oShop ad (aHa M f))) (hr : ∀ j, j ≠ 1 → j ≠ 5 → j ≠ 56 + mH M → ct1 j = ct j) : lC cy ad1 ct1 (aHa M f) ∧ kFr ad ad1 ct ct1 := by
  obtain ⟨h1, h2, tb, fl, fw, fh, fr, h3⟩ := h
  exact ⟨⟨RepC_aHa h1 ho hm (h2.2.2.2.2.1 _ (Nat.le_refl _) hm) f hz ha hq hr had, FreeC_aHa h2 ho f hm hr, tb, fl, fw, fh, fr, h3.mvt (fun j a b => ⟨had j (by omega), hr j (by omega) (by omega) (by omega)⟩)⟩, fun j hj => ⟨had j (by omega), hr j (by omega) (by omega) (by omega)⟩⟩
theorem bC_piece (h : lC cy ad ct M) (ho : okM M) {i : Nat} (hi : i < mS M) (hm : (mst M i).1 < 5) (pc : tPc) (had : ∀ j, j ≠ 40 + 5 * i + (mst M i).1 → ad1 j = ad j) (hz : ct1 (40 + 5 * i + (mst M i).1) = some (oPc pc)) (ha : ct1 (36 + i) = some (.inl (cy 9, 5, aQ (va_up (kqs ad (40 + 5 * i) (mst M i).1) (mst M i).1 (some (ad1 (40 + 5 * i + (mst M i).1))))))) (hs : ct1 (32 + i) = some (oSt ad i (zPc (mst M i) pc))) (hr : ∀ j, j ≠ 32 + i → j ≠ 36 + i → j ≠ 40 + 5 * i + (mst M i).1 → ct1 j = ct j) : lC cy ad1 ct1 (sSt M i (zPc (mst M i) pc)) ∧ kFr ad ad1 ct ct1 := by
  have hb := ho.1
  obtain ⟨h1, h2, tb, fl, fw, fh, fr, h3⟩ := h
  exact ⟨⟨RepC_aPc h1 ho hi hm (h2.2.2.2.1 i (by omega) _ (fun _ => Nat.le_refl _) hm) pc hz ha hs hr had, FreeC_aPc h2 ho hi hm pc hr, tb, fl, fw, fh, fr, h3.mvt (fun j a b => ⟨had j (by omega), hr j (by omega) (by omega) (by omega)⟩)⟩, fun j hj => ⟨had j (by omega), hr j (by omega) (by omega) (by omega)⟩⟩
/-- keys that held something before -/
theorem FreeC.set {M' : tM} (h : FreeC ct M) (hM : ∀ c : Nat → Option va_E, FreeC c M → FreeC c M') (hx : ∀ j, ct j = none → ct1 j = none) : FreeC ct1 M' := hM _ (h.kp hx)
theorem nn_of {j k : Nat} {e : va_E} (h : ct k = some e) (z : ct j = none) : j ≠ k := fun q => by rw [q, h] at z; cases z
theorem bC_sSh (h : lC cy ad ct M) (ho : okM M) (s : tSh) (h1 : ct1 1 = some (oShop ad (sSh M s))) (hr : ∀ j, j ≠ 1 → ct1 j = ct j) : lC cy ad ct1 (sSh M s) ∧ kFr ad ad ct ct1 := by
  obtain ⟨a1, a2, tb, fl, fw, fh, fr, a3⟩ := h
  exact ⟨⟨RepC_sSh a1 ho s h1 hr, a2.kp (fun j z => (hr j (nn_of a1.1 z)).trans z), tb, fl, fw, fh, fr, a3.mvt (fun j a b => ⟨rfl, hr j (by omega)⟩)⟩, fun j hj => ⟨rfl, hr j (by omega)⟩⟩
theorem bC_sCl (h : lC cy ad ct M) (ho : okM M) {k : Nat} (hk : k < mC M) (x : tCl) (h1 : ct1 (16 + k) = some (oCl x)) (hr : ∀ j, j ≠ 16 + k → ct1 j = ct j) : lC cy ad ct1 (sCl M k x) ∧ kFr ad ad ct ct1 := by
  have hb := ho.1
  obtain ⟨a1, a2, tb, fl, fw, fh, fr, a3⟩ := h
  exact ⟨⟨RepC_sCl a1 ho hk x h1 hr, a2.kp (fun j z => (hr j (nn_of (a1.2.2.1 k hk) z)).trans z), tb, fl, fw, fh, fr, a3.mvt (fun j a b => ⟨rfl, hr j (by omega)⟩)⟩, fun j hj => ⟨rfl, hr j (by omega)⟩⟩
theorem bC_sPe (h : lC cy ad ct M) (ho : okM M) {k : Nat} (hk : k < mP M) (x : Nat → Nat) (h1 : ct1 (24 + k) = some (oPer (nI k) x)) (hr : ∀ j, j ≠ 24 + k → ct1 j = ct j) : lC cy ad ct1 (sPe M k x) ∧ kFr ad ad ct ct1 := by
  have hb := ho.1
  obtain ⟨a1, a2, tb, fl, fw, fh, fr, a3⟩ := h
  exact ⟨⟨RepC_sPe a1 ho hk x h1 hr, a2.kp (fun j z => (hr j (nn_of (a1.2.2.2.1 k hk) z)).trans z), tb, fl, fw, fh, fr, a3.mvt (fun j a b => ⟨rfl, hr j (by omega)⟩)⟩, fun j hj => ⟨rfl, hr j (by omega)⟩⟩
theorem bC_sew (h : lC cy ad ct M) (ho : okM M) {i kh : Nat} (hi : i < mO M) (hk : kh < mH M) (xh : Int32) (h1 : ct1 (56 + kh) = some (oHa (fSewH M i kh))) (h2 : ct1 (64 + i) = some (oOr ad i (fSewO M i kh xh))) (hr : ∀ j, j ≠ 56 + kh → j ≠ 64 + i → ct1 j = ct j) : lC cy ad ct1 (fSewM M i kh xh) ∧ kFr ad ad ct ct1 := by
  have hb := ho.1
  obtain ⟨a1, a2, tb, fl, fw, fh, fr, a3⟩ := h
  have b1 : RepC cy ad (up ct (56 + kh) (oHa (fSewH M i kh))) (sHa M kh (fSewH M i kh)) := RepC_sHa a1 ho hk _ up_s (fun j hj => up_n hj)
  have hbo := (a1.ord ho hi).2.1
  refine ⟨⟨RepC_sOr b1 (okM_sHa ho kh _ (ho.2.2.2.2.1 kh hk)) (k := i) hi (fSewO M i kh xh) h2 ((hr _ (by omega) (by omega)).trans hbo) (fun j ja jb => ?_), a2.kp (fun j z => (hr j (nn_of (a1.2.2.2.2.2.2.2.1 kh hk) z) (nn_of (a1.ord ho hi).1 z)).trans z), tb, fl, fw, fh, fr, a3.mvt (fun j a b => ⟨rfl, hr j (by omega) (by omega)⟩)⟩, fun j hj => ⟨rfl, hr j (by omega) (by omega)⟩⟩
  by_cases e : j = 56 + kh
  · rw [e, up_s]; exact h1
  · rw [up_n e]; exact hr j e ja
theorem bC_shOr (h : lC cy ad ct M) (ho : okM M) {i : Nat} (hi : i < mO M) (s : tSh) (o : tOr) (hob : oBod o = oBod (mod M i)) (h1 : ct1 1 = some (oShop ad (sSh M s))) (h2 : ct1 (64 + i) = some (oOr ad i o)) (hr : ∀ j, j ≠ 1 → j ≠ 64 + i → ct1 j = ct j) : lC cy ad ct1 (sOr (sSh M s) i o) ∧ kFr ad ad ct ct1 := by
  have hb := ho.1
  obtain ⟨a1, a2, tb, fl, fw, fh, fr, a3⟩ := h
  have b1 : RepC cy ad (up ct 1 (oShop ad (sSh M s))) (sSh M s) := RepC_sSh a1 ho s up_s (fun j hj => up_n hj)
  have hbo := (a1.ord ho hi).2.1
  refine ⟨⟨RepC_sOr b1 (okM_sSh ho s) (k := i) hi o h2 ((hr _ (by omega) (by omega)).trans (by rw [hob]; exact hbo)) (fun j ja jb => ?_), a2.kp (fun j z => (hr j (nn_of a1.1 z) (nn_of (a1.ord ho hi).1 z)).trans z), tb, fl, fw, fh, fr, a3.mvt (fun j a b => ⟨rfl, hr j (by omega) (by omega)⟩)⟩, fun j hj => ⟨rfl, hr j (by omega) (by omega)⟩⟩
  by_cases e : j = 1
  · rw [e, up_s]; exact h1
  · rw [up_n e]; exact hr j e ja
theorem bC_cut (h : lC cy ad ct M) (ho : okM M) {i jc : Nat} (hi : i < mO M) (hc : jc < mC M) {nd nk : UInt64} {o : Option Nat} (hoo : ∀ i2, o = some i2 → i2 < mO M) (h1 : RepC cy ad ct1 (fC4 M i jc nd nk o)) (hT : ∃ (tb : tTb) (fl fw fh fr : Nat → UInt64), RepT cy ad ct1 tb fl fw fh fr) (hr : ∀ k, k ≠ 1 → (k < 7 ∨ 11 < k) → k ≠ 16 + jc → k ≠ 64 + i → k ≠ 72 + i → (∀ i2, o = some i2 → k ≠ 64 + i2 ∧ k ≠ 72 + i2) → ct1 k = ct k) : lC cy ad ct1 (fC4 M i jc nd nk o) ∧ kFr ad ad ct ct1 := by
  have hb := ho.1
  obtain ⟨a1, a2, tb, fl, fw, fh, fr, a3⟩ := h
  refine ⟨⟨h1, ?_, hT⟩, fun j hj => ⟨rfl, hr j (by omega) (by omega) (by omega) (by omega) (by omega) (fun i2 e => by have := hoo i2 e; omega)⟩⟩
  have key : FreeC ct1 M := by
    obtain ⟨b1, b2, b3, b4, b5, b6⟩ := a2
    have q : ∀ k, 12 ≤ k → k < 64 → k ≠ 16 + jc → ct1 k = ct k := fun k ka kb kc => hr k (by omega) (by omega) kc (by omega) (by omega) (fun i2 e => by omega)
    refine ⟨fun i' x y => (q _ (by omega) (by omega) (by omega)).trans (b1 i' x y), fun i' x y => (q _ (by omega) (by omega) (by omega)).trans (b2 i' x y), fun i' x y => ⟨(q _ (by omega) (by omega) (by omega)).trans (b3 i' x y).1, (q _ (by omega) (by omega) (by omega)).trans (b3 i' x y).2⟩, fun i' x j y z => (q _ (by omega) (by omega) (by omega)).trans (b4 i' x j y z), fun i' x y => (q _ (by omega) (by omega) (by omega)).trans (b5 i' x y), fun i' x y => ⟨(hr _ (by omega) (by omega) (by omega) (by omega) (by omega) (fun i2 e => by have := hoo i2 e; omega)).trans (b6 i' x y).1, (hr _ (by omega) (by omega) (by omega) (by omega) (by omega) (fun i2 e => by have := hoo i2 e; omega)).trans (b6 i' x y).2⟩⟩
  cases o with
  | none => exact key
  | some i2 => exact key
theorem bC_take (h : lC cy ad ct M) (ho : okM M) {q i : Nat} (hq : q < mP M) (hi : i < mS M) (hm : mO M < 8) (hp : 0 < (mst M i).1) (du : Int32) (had : ∀ j, j ≠ 64 + mO M → j ≠ 72 + mO M → ad1 j = ad j) (hz : ct1 (64 + mO M) = some (oOr ad1 (mO M) (q, i, du, 0, -1, 0, -1, cM1, -1, cD0, fun _ => 0))) (hy : ct1 (72 + mO M) = some (.inl (cy 0, 5, aD (fun _ => 0)))) (ha : ct1 6 = some (.inl (cy 8, 8, aQ (va_up (kqs ad 64 (mO M)) (mO M) (some (ad1 (64 + mO M))))))) (hq1 : ct1 1 = some (oShop ad (aOr M (q, i, du, 0, -1, 0, -1, cM1, -1, cD0, fun _ => 0)))) (hs : ct1 (32 + i) = some (oSt ad i ((mst M i).1, (mst M i).2.1, 1))) (hr : ∀ j, j ≠ 1 → j ≠ 6 → j ≠ 64 + mO M → j ≠ 72 + mO M → j ≠ 32 + i → ct1 j = ct j) : lC cy ad1 ct1 (fTakeM M q i du) ∧ kFr ad ad1 ct ct1 := by
  have hb := ho.1
  obtain ⟨h1, h2, tb, fl, fw, fh, fr, h3⟩ := h
  obtain ⟨cm, hcm⟩ : ∃ cm : Nat → Option va_E, cm = fun j => if j = 32 + i then ct j else ct1 j := ⟨_, rfl⟩
  have c1 : ∀ j, j ≠ 32 + i → cm j = ct1 j := fun j hj => by rw [hcm]; exact if_neg hj
  have c2 : cm (32 + i) = ct (32 + i) := by rw [hcm]; exact if_pos rfl
  have hrm : ∀ j, j ≠ 1 → j ≠ 6 → j ≠ 64 + mO M → j ≠ 72 + mO M → cm j = ct j := fun j a b c d => by
    by_cases e : j = 32 + i
    · rw [e]; exact c2
    · rw [c1 j e]; exact hr j a b c d e
  have b1 : RepC cy ad1 cm (aOr M (q, i, du, 0, -1, 0, -1, cM1, -1, cD0, fun _ => 0)) := RepC_aOr h1 ho hm (h2.2.2.2.2.2 _ (Nat.le_refl _) hm) _ ((c1 _ (by omega)).trans hz) ((c1 _ (by omega)).trans hy) ((c1 _ (by omega)).trans ha) ((c1 _ (by omega)).trans hq1) hrm had
  have o1 : okM (aOr M (q, i, du, 0, -1, 0, -1, cM1, -1, cD0, fun _ => 0)) := okM_aOr ho hm _ hq hi hp (show 0 ≤ 5 by decide)
  have e36 : ad1 (36 + i) = ad (36 + i) := had _ (by omega) (by omega)
  have hs1 : ct1 (32 + i) = some (oSt ad1 i ((mst M i).1, (mst M i).2.1, 1)) := by
    rw [hs]
    unfold oSt
    rw [e36]
  have b2 : RepC cy ad1 ct1 (fTakeM M q i du) := RepC_sSt b1 o1 (k := i) hi ((mst M i).1, (mst M i).2.1, 1) ⟨rfl, rfl⟩ hs1 (fun j hj => (c1 j hj).symm)
  have f1 : FreeC cm (aOr M (q, i, du, 0, -1, 0, -1, cM1, -1, cD0, fun _ => 0)) := FreeC_aOr h2 ho _ hm hrm
  have f2 : FreeC ct1 (aOr M (q, i, du, 0, -1, 0, -1, cM1, -1, cD0, fun _ => 0)) := f1.kp (fun j z => by
    by_cases e : j = 32 + i
    · rw [e, c2, h1.2.2.2.2.1 i hi] at z; cases z
    · rw [← c1 j e]; exact z)
  refine ⟨⟨b2, ?_, tb, fl, fw, fh, fr, h3.mvt (fun j a b => ⟨had j (by omega) (by omega), hr j (by omega) (by omega) (by omega) (by omega) (by omega)⟩)⟩, fun j hj => ⟨had j (by omega) (by omega), hr j (by omega) (by omega) (by omega) (by omega) (by omega)⟩⟩
  obtain ⟨g1, g2, g3, g4, g5, g6⟩ := f2
  refine ⟨g1, g2, g3, fun i' x j y z => g4 i' x j (fun w => ?_) z, g5, g6⟩
  have y2 : (vf_upd (mst M) i ((mst M i).1, (mst M i).2.1, 1) i').1 ≤ j := y w
  show (mst M i').1 ≤ j
  by_cases e : i' = i
  · rw [e, vu_s] at y2; rw [e]; exact y2
  · rw [vu_n e] at y2; exact y2
end BCLS
