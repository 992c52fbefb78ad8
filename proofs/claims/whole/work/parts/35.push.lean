/-! the shop with one more -/
def aCl (M : tM) (c : tCl) : tM := ((mC M + 1, M.1.2), M.2.1, vf_upd M.2.2.1 (mC M) c, M.2.2.2)
def aPe (M : tM) (f : Nat → Nat) : tM := ((mC M, mP M + 1, M.1.2.2), M.2.1, M.2.2.1, vf_upd M.2.2.2.1 (mP M) f, M.2.2.2.2)
def aSt (M : tM) (f : tSt) : tM := ((mC M, mP M, mS M + 1, M.1.2.2.2), M.2.1, M.2.2.1, M.2.2.2.1, vf_upd M.2.2.2.2.1 (mS M) f, M.2.2.2.2.2)
def aHa (M : tM) (f : tHa) : tM := ((mC M, mP M, mS M, mH M + 1, mO M), M.2.1, M.2.2.1, M.2.2.2.1, M.2.2.2.2.1, vf_upd M.2.2.2.2.2.1 (mH M) f, M.2.2.2.2.2.2)
def aOr (M : tM) (f : tOr) : tM := ((mC M, mP M, mS M, mH M, mO M + 1), M.2.1, M.2.2.1, M.2.2.2.1, M.2.2.2.2.1, M.2.2.2.2.2.1, vf_upd M.2.2.2.2.2.2 (mO M) f)
def fMs (a b c d : Nat) : Nat → Nat := fun j => if j = 0 then a else if j = 1 then b else if j = 2 then c else d
def zSt : tSt := (0, fun _ => (0, 0, 0, 0), 0)
theorem kqs_eq {ad ad1 : Nat → Nat} {base n : Nat} (h : ∀ i, i < n → ad1 (base + i) = ad (base + i)) : kqs ad1 base n = kqs ad base n := by
  funext i
  show (if i < n then some (ad1 (base + i)) else none) = (if i < n then some (ad (base + i)) else none)
  by_cases q : i < n
  · rw [if_pos q, if_pos q, h i q]
  · rw [if_neg q, if_neg q]
theorem kqs_0 {ad : Nat → Nat} {base : Nat} : kqs ad base 0 = fun _ => none := by
  funext i
  exact if_neg (Nat.not_lt_zero i)
theorem kqs_push {ad ad1 : Nat → Nat} {base n : Nat} (h : ∀ i, i < n → ad1 (base + i) = ad (base + i)) : va_up (kqs ad base n) n (some (ad1 (base + n))) = kqs ad1 base (n + 1) := by
  funext i
  show (if i = n then some (ad1 (base + n)) else (if i < n then some (ad (base + i)) else none)) = (if i < n + 1 then some (ad1 (base + i)) else none)
  by_cases q : i = n
  · subst q
    rw [if_pos rfl, if_pos (Nat.lt_succ_self i)]
  · rw [if_neg q]
    by_cases r : i < n
    · rw [if_pos r, if_pos (by omega), h i r]
    · rw [if_neg r, if_neg (by omega)]
theorem oShop_ad {ad ad1 : Nat → Nat} {M : tM} (h : ∀ j, 2 ≤ j → j ≤ 7 → ad1 j = ad j) : oShop ad M = oShop ad1 M := by
  unfold oShop
  rw [h 2 (by omega) (by omega), h 3 (by omega) (by omega), h 4 (by omega) (by omega), h 5 (by omega) (by omega), h 6 (by omega) (by omega), h 7 (by omega) (by omega)]
/-- the shop's world at other places, with the same contents where it lies -/
theorem RepC.mv {cy : Nat → ClassId} {ad ad1 : Nat → Nat} {ct ct1 : Nat → Option va_E} {M : tM} (h : RepC cy ad ct M) (ho : okM M) (hk : ∀ j, j < 80 → ct j ≠ none → ad1 j = ad j ∧ ct1 j = ct j) (h7 : ad1 7 = ad 7) : RepC cy ad1 ct1 M := by
  obtain ⟨h1, ⟨ha2, ha3, ha4, ha5, ha6⟩, hcl, hpe, hst, hsa, hpc, hha, hod, hbo⟩ := h
  obtain ⟨⟨hb1, hb2, hb3, hb4, hb5⟩, hk1, hk2, hk3, hk4, hk5⟩ := ho
  have key : ∀ {j : Nat} {e : va_E}, j < 80 → ct j = some e → ct1 j = some e ∧ ad1 j = ad j := fun {j e} hj he =>
    have q := hk j hj (by rw [he]; exact Option.some_ne_none _)
    ⟨q.2.trans he, q.1⟩
  have e2 := (key (by omega) ha2).2
  have e3 := (key (by omega) ha3).2
  have e4 := (key (by omega) ha4).2
  have e5 := (key (by omega) ha5).2
  have e6 := (key (by omega) ha6).2
  have ecl : ∀ i, i < mC M → ad1 (16 + i) = ad (16 + i) := fun i hi => (key (by omega) (hcl i hi)).2
  have epe : ∀ i, i < mP M → ad1 (24 + i) = ad (24 + i) := fun i hi => (key (by omega) (hpe i hi)).2
  have est : ∀ i, i < mS M → ad1 (32 + i) = ad (32 + i) := fun i hi => (key (by omega) (hst i hi)).2
  have esa : ∀ i, i < mS M → ad1 (36 + i) = ad (36 + i) := fun i hi => (key (by omega) (hsa i hi)).2
  have epc : ∀ i, i < mS M → ∀ j, j < (mst M i).1 → ad1 (40 + 5 * i + j) = ad (40 + 5 * i + j) := fun i hi j hj => (key (by have := (hk3 i hi).1; omega) (hpc i hi j hj)).2
  have eha : ∀ i, i < mH M → ad1 (56 + i) = ad (56 + i) := fun i hi => (key (by omega) (hha i hi)).2
  have eod : ∀ i, i < mO M → ad1 (64 + i) = ad (64 + i) := fun i hi => (key (by omega) (hod i hi)).2
  have ebo : ∀ i, i < mO M → ad1 (72 + i) = ad (72 + i) := fun i hi => (key (by omega) (hbo i hi)).2
  refine ⟨?_, ⟨?_, ?_, ?_, ?_, ?_⟩, fun i hi => (key (by omega) (hcl i hi)).1, fun i hi => (key (by omega) (hpe i hi)).1, fun i hi => ?_, fun i hi => ?_, fun i hi j hj => (key (by have := (hk3 i hi).1; omega) (hpc i hi j hj)).1, fun i hi => (key (by omega) (hha i hi)).1, fun i hi => ?_, fun i hi => (key (by omega) (hbo i hi)).1⟩
  · refine (key (by omega) h1).1.trans (congrArg some ?_)
    unfold oShop
    rw [e2, e3, e4, e5, e6, h7]
  · rw [kqs_eq ecl]; exact (key (by omega) ha2).1
  · rw [kqs_eq epe]; exact (key (by omega) ha3).1
  · rw [kqs_eq est]; exact (key (by omega) ha4).1
  · rw [kqs_eq eha]; exact (key (by omega) ha5).1
  · rw [kqs_eq eod]; exact (key (by omega) ha6).1
  · refine (key (by omega) (hst i hi)).1.trans (congrArg some ?_)
    unfold oSt
    rw [esa i hi]
  · rw [kqs_eq (epc i hi)]; exact (key (by omega) (hsa i hi)).1
  · obtain ⟨q1, q2, -⟩ := hk5 i hi
    refine (key (by omega) (hod i hi)).1.trans (congrArg some ?_)
    unfold oOr
    rw [epe _ q1, est _ q2, ebo i hi]
theorem RepC_aCl {cy : Nat → ClassId} {ad ad1 : Nat → Nat} {ct ct1 : Nat → Option va_E} {M : tM} (h : RepC cy ad ct M) (ho : okM M) (hlt : mC M < 4) (hfr : ct (16 + mC M) = none) (c : tCl) (hz : ct1 (16 + mC M) = some (oCl (c))) (ha : ct1 2 = some (.inl (cy 4, 4, aQ (va_up (kqs ad 16 (mC M)) (mC M) (some (ad1 (16 + mC M))))))) (hq1 : ct1 1 = some (oShop ad (aCl M c))) (hr : ∀ j, j ≠ 1 → j ≠ 2 → j ≠ 16 + mC M → ct1 j = ct j) (had : ∀ j, j ≠ 16 + mC M → ad1 j = ad j) : RepC cy ad1 ct1 (aCl M c) := by
  have hb0 := ho.1
  obtain ⟨h1, ⟨ha2, ha3, ha4, ha5, ha6⟩, hcl, hpe, hst, hsa, hpc, hha, hod, hbo⟩ := h.mv (ad1 := ad1) (ct1 := ct) ho (fun j _ (hn : ct j ≠ none) => ⟨had j (fun e => hn (by rw [e]; exact hfr)), rfl⟩) (had 7 (by omega))
  obtain ⟨⟨hb1, hb2, hb3, hb4, hb5⟩, hk1, hk2, hk3, hk4, hk5⟩ := ho
  refine ⟨hq1.trans (congrArg some (oShop_ad (fun j _ _ => had j (by omega)))), ⟨ha.trans (by rw [kqs_push (fun i hi => had _ (by omega))]; rfl), (hr _ (by omega) (by omega) (by omega)).trans ha3, (hr _ (by omega) (by omega) (by omega)).trans ha4, (hr _ (by omega) (by omega) (by omega)).trans ha5, (hr _ (by omega) (by omega) (by omega)).trans ha6⟩, ?_, fun i (hi : i < mP M) => (hr _ (by omega) (by omega) (by omega)).trans (hpe i hi), fun i (hi : i < mS M) => (hr _ (by omega) (by omega) (by omega)).trans (hst i hi), fun i (hi : i < mS M) => (hr _ (by omega) (by omega) (by omega)).trans (hsa i hi), fun i (hi : i < mS M) j (hj : j < (mst M i).1) => (hr _ (by have h5 := (hk3 i hi).1; omega) (by have h5 := (hk3 i hi).1; omega) (by have h5 := (hk3 i hi).1; omega)).trans (hpc i hi j hj), fun i (hi : i < mH M) => (hr _ (by omega) (by omega) (by omega)).trans (hha i hi), fun i (hi : i < mO M) => (hr _ (by omega) (by omega) (by omega)).trans (hod i hi), fun i (hi : i < mO M) => (hr _ (by omega) (by omega) (by omega)).trans (hbo i hi)⟩
  · intro i (hi : i < mC M + 1)
    by_cases e : i = mC M
    · subst e
      refine hz.trans (congrArg some ?_)
      show oCl (c) = oCl (vf_upd (mcl M) (mC M) c (mC M))
      rw [vu_s]
    · refine (hr _ (by omega) (by omega) (by omega)).trans ((hcl i (by omega)).trans (congrArg some ?_))
      show oCl (mcl M i) = oCl (vf_upd (mcl M) (mC M) c i)
      rw [vu_n e]
theorem FreeC_aCl {ct ct1 : Nat → Option va_E} {M : tM} (h : FreeC ct M) (ho : okM M) (c : tCl) (hlt : mC M < 4) (hr : ∀ j, j ≠ 1 → j ≠ 2 → j ≠ 16 + mC M → ct1 j = ct j) : FreeC ct1 (aCl M c) := by
  obtain ⟨h1, h2, h3, h4, h5, h6⟩ := h
  obtain ⟨⟨hb1, hb2, hb3, hb4, hb5⟩, -⟩ := ho
  refine ⟨fun i (a : mC M + 1 ≤ i) b => (hr _ (by omega) (by omega) (by omega)).trans (h1 i (by omega) b), fun i (a : mP M ≤ i) b => (hr _ (by omega) (by omega) (by omega)).trans (h2 i (by omega) b), fun i (a : mS M ≤ i) b => ⟨(hr _ (by omega) (by omega) (by omega)).trans (h3 i (by omega) b).1, (hr _ (by omega) (by omega) (by omega)).trans (h3 i (by omega) b).2⟩, fun i a j (b : i < mS M → (mst M i).1 ≤ j) c => (hr _ (by omega) (by omega) (by omega)).trans (h4 i a j b c), fun i (a : mH M ≤ i) b => (hr _ (by omega) (by omega) (by omega)).trans (h5 i (by omega) b), fun i (a : mO M ≤ i) b => ⟨(hr _ (by omega) (by omega) (by omega)).trans (h6 i (by omega) b).1, (hr _ (by omega) (by omega) (by omega)).trans (h6 i (by omega) b).2⟩⟩
theorem RepC_aPe {cy : Nat → ClassId} {ad ad1 : Nat → Nat} {ct ct1 : Nat → Option va_E} {M : tM} (h : RepC cy ad ct M) (ho : okM M) (hlt : mP M < 6) (hfr : ct (24 + mP M) = none) (f : Nat → Nat) (hz : ct1 (24 + mP M) = some (oPer (nI (mP M)) (f))) (ha : ct1 3 = some (.inl (cy 5, 6, aQ (va_up (kqs ad 24 (mP M)) (mP M) (some (ad1 (24 + mP M))))))) (hq1 : ct1 1 = some (oShop ad (aPe M f))) (hr : ∀ j, j ≠ 1 → j ≠ 3 → j ≠ 24 + mP M → ct1 j = ct j) (had : ∀ j, j ≠ 24 + mP M → ad1 j = ad j) : RepC cy ad1 ct1 (aPe M f) := by
  have hb0 := ho.1
  obtain ⟨h1, ⟨ha2, ha3, ha4, ha5, ha6⟩, hcl, hpe, hst, hsa, hpc, hha, hod, hbo⟩ := h.mv (ad1 := ad1) (ct1 := ct) ho (fun j _ (hn : ct j ≠ none) => ⟨had j (fun e => hn (by rw [e]; exact hfr)), rfl⟩) (had 7 (by omega))
  obtain ⟨⟨hb1, hb2, hb3, hb4, hb5⟩, hk1, hk2, hk3, hk4, hk5⟩ := ho
  refine ⟨hq1.trans (congrArg some (oShop_ad (fun j _ _ => had j (by omega)))), ⟨(hr _ (by omega) (by omega) (by omega)).trans ha2, ha.trans (by rw [kqs_push (fun i hi => had _ (by omega))]; rfl), (hr _ (by omega) (by omega) (by omega)).trans ha4, (hr _ (by omega) (by omega) (by omega)).trans ha5, (hr _ (by omega) (by omega) (by omega)).trans ha6⟩, fun i (hi : i < mC M) => (hr _ (by omega) (by omega) (by omega)).trans (hcl i hi), ?_, fun i (hi : i < mS M) => (hr _ (by omega) (by omega) (by omega)).trans (hst i hi), fun i (hi : i < mS M) => (hr _ (by omega) (by omega) (by omega)).trans (hsa i hi), fun i (hi : i < mS M) j (hj : j < (mst M i).1) => (hr _ (by have h5 := (hk3 i hi).1; omega) (by have h5 := (hk3 i hi).1; omega) (by have h5 := (hk3 i hi).1; omega)).trans (hpc i hi j hj), fun i (hi : i < mH M) => (hr _ (by omega) (by omega) (by omega)).trans (hha i hi), fun i (hi : i < mO M) => (hr _ (by omega) (by omega) (by omega)).trans (hod i hi), fun i (hi : i < mO M) => (hr _ (by omega) (by omega) (by omega)).trans (hbo i hi)⟩
  · intro i (hi : i < mP M + 1)
    by_cases e : i = mP M
    · subst e
      refine hz.trans (congrArg some ?_)
      show oPer (nI (mP M)) (f) = oPer (nI (mP M)) (vf_upd (mpe M) (mP M) f (mP M))
      rw [vu_s]
    · refine (hr _ (by omega) (by omega) (by omega)).trans ((hpe i (by omega)).trans (congrArg some ?_))
      show oPer (nI i) (mpe M i) = oPer (nI i) (vf_upd (mpe M) (mP M) f i)
      rw [vu_n e]
theorem FreeC_aPe {ct ct1 : Nat → Option va_E} {M : tM} (h : FreeC ct M) (ho : okM M) (f : Nat → Nat) (hlt : mP M < 6) (hr : ∀ j, j ≠ 1 → j ≠ 3 → j ≠ 24 + mP M → ct1 j = ct j) : FreeC ct1 (aPe M f) := by
  obtain ⟨h1, h2, h3, h4, h5, h6⟩ := h
  obtain ⟨⟨hb1, hb2, hb3, hb4, hb5⟩, -⟩ := ho
  refine ⟨fun i (a : mC M ≤ i) b => (hr _ (by omega) (by omega) (by omega)).trans (h1 i (by omega) b), fun i (a : mP M + 1 ≤ i) b => (hr _ (by omega) (by omega) (by omega)).trans (h2 i (by omega) b), fun i (a : mS M ≤ i) b => ⟨(hr _ (by omega) (by omega) (by omega)).trans (h3 i (by omega) b).1, (hr _ (by omega) (by omega) (by omega)).trans (h3 i (by omega) b).2⟩, fun i a j (b : i < mS M → (mst M i).1 ≤ j) c => (hr _ (by omega) (by omega) (by omega)).trans (h4 i a j b c), fun i (a : mH M ≤ i) b => (hr _ (by omega) (by omega) (by omega)).trans (h5 i (by omega) b), fun i (a : mO M ≤ i) b => ⟨(hr _ (by omega) (by omega) (by omega)).trans (h6 i (by omega) b).1, (hr _ (by omega) (by omega) (by omega)).trans (h6 i (by omega) b).2⟩⟩
theorem RepC_aHa {cy : Nat → ClassId} {ad ad1 : Nat → Nat} {ct ct1 : Nat → Option va_E} {M : tM} (h : RepC cy ad ct M) (ho : okM M) (hlt : mH M < 3) (hfr : ct (56 + mH M) = none) (f : tHa) (hz : ct1 (56 + mH M) = some (oHa (f))) (ha : ct1 5 = some (.inl (cy 7, 3, aQ (va_up (kqs ad 56 (mH M)) (mH M) (some (ad1 (56 + mH M))))))) (hq1 : ct1 1 = some (oShop ad (aHa M f))) (hr : ∀ j, j ≠ 1 → j ≠ 5 → j ≠ 56 + mH M → ct1 j = ct j) (had : ∀ j, j ≠ 56 + mH M → ad1 j = ad j) : RepC cy ad1 ct1 (aHa M f) := by
  have hb0 := ho.1
  obtain ⟨h1, ⟨ha2, ha3, ha4, ha5, ha6⟩, hcl, hpe, hst, hsa, hpc, hha, hod, hbo⟩ := h.mv (ad1 := ad1) (ct1 := ct) ho (fun j _ (hn : ct j ≠ none) => ⟨had j (fun e => hn (by rw [e]; exact hfr)), rfl⟩) (had 7 (by omega))
  obtain ⟨⟨hb1, hb2, hb3, hb4, hb5⟩, hk1, hk2, hk3, hk4, hk5⟩ := ho
  refine ⟨hq1.trans (congrArg some (oShop_ad (fun j _ _ => had j (by omega)))), ⟨(hr _ (by omega) (by omega) (by omega)).trans ha2, (hr _ (by omega) (by omega) (by omega)).trans ha3, (hr _ (by omega) (by omega) (by omega)).trans ha4, ha.trans (by rw [kqs_push (fun i hi => had _ (by omega))]; rfl), (hr _ (by omega) (by omega) (by omega)).trans ha6⟩, fun i (hi : i < mC M) => (hr _ (by omega) (by omega) (by omega)).trans (hcl i hi), fun i (hi : i < mP M) => (hr _ (by omega) (by omega) (by omega)).trans (hpe i hi), fun i (hi : i < mS M) => (hr _ (by omega) (by omega) (by omega)).trans (hst i hi), fun i (hi : i < mS M) => (hr _ (by omega) (by omega) (by omega)).trans (hsa i hi), fun i (hi : i < mS M) j (hj : j < (mst M i).1) => (hr _ (by have h5 := (hk3 i hi).1; omega) (by have h5 := (hk3 i hi).1; omega) (by have h5 := (hk3 i hi).1; omega)).trans (hpc i hi j hj), ?_, fun i (hi : i < mO M) => (hr _ (by omega) (by omega) (by omega)).trans (hod i hi), fun i (hi : i < mO M) => (hr _ (by omega) (by omega) (by omega)).trans (hbo i hi)⟩
  · intro i (hi : i < mH M + 1)
    by_cases e : i = mH M
    · subst e
      refine hz.trans (congrArg some ?_)
      show oHa (f) = oHa (vf_upd (mha M) (mH M) f (mH M))
      rw [vu_s]
    · refine (hr _ (by omega) (by omega) (by omega)).trans ((hha i (by omega)).trans (congrArg some ?_))
      show oHa (mha M i) = oHa (vf_upd (mha M) (mH M) f i)
      rw [vu_n e]
theorem FreeC_aHa {ct ct1 : Nat → Option va_E} {M : tM} (h : FreeC ct M) (ho : okM M) (f : tHa) (hlt : mH M < 3) (hr : ∀ j, j ≠ 1 → j ≠ 5 → j ≠ 56 + mH M → ct1 j = ct j) : FreeC ct1 (aHa M f) := by
  obtain ⟨h1, h2, h3, h4, h5, h6⟩ := h
  obtain ⟨⟨hb1, hb2, hb3, hb4, hb5⟩, -⟩ := ho
  refine ⟨fun i (a : mC M ≤ i) b => (hr _ (by omega) (by omega) (by omega)).trans (h1 i (by omega) b), fun i (a : mP M ≤ i) b => (hr _ (by omega) (by omega) (by omega)).trans (h2 i (by omega) b), fun i (a : mS M ≤ i) b => ⟨(hr _ (by omega) (by omega) (by omega)).trans (h3 i (by omega) b).1, (hr _ (by omega) (by omega) (by omega)).trans (h3 i (by omega) b).2⟩, fun i a j (b : i < mS M → (mst M i).1 ≤ j) c => (hr _ (by omega) (by omega) (by omega)).trans (h4 i a j b c), fun i (a : mH M + 1 ≤ i) b => (hr _ (by omega) (by omega) (by omega)).trans (h5 i (by omega) b), fun i (a : mO M ≤ i) b => ⟨(hr _ (by omega) (by omega) (by omega)).trans (h6 i (by omega) b).1, (hr _ (by omega) (by omega) (by omega)).trans (h6 i (by omega) b).2⟩⟩
theorem RepC_aSt {cy : Nat → ClassId} {ad ad1 : Nat → Nat} {ct ct1 : Nat → Option va_E} {M : tM} (h : RepC cy ad ct M) (ho : okM M) (hlt : mS M < 3) (hfr : ct (32 + mS M) = none ∧ ct (36 + mS M) = none) (f : tSt) (hz : ct1 (32 + mS M) = some (oSt ad1 (mS M) (f))) (hy : ct1 (36 + mS M) = some (.inl (cy 9, 5, aQ (fun _ => none)))) (hf0 : f.1 = 0) (ha : ct1 4 = some (.inl (cy 6, 3, aQ (va_up (kqs ad 32 (mS M)) (mS M) (some (ad1 (32 + mS M))))))) (hq1 : ct1 1 = some (oShop ad (aSt M f))) (hr : ∀ j, j ≠ 1 → j ≠ 4 → j ≠ 32 + mS M → j ≠ 36 + mS M → ct1 j = ct j) (had : ∀ j, j ≠ 32 + mS M → j ≠ 36 + mS M → ad1 j = ad j) : RepC cy ad1 ct1 (aSt M f) := by
  have hb0 := ho.1
  obtain ⟨h1, ⟨ha2, ha3, ha4, ha5, ha6⟩, hcl, hpe, hst, hsa, hpc, hha, hod, hbo⟩ := h.mv (ad1 := ad1) (ct1 := ct) ho (fun j _ (hn : ct j ≠ none) => ⟨had j (fun e => hn (by rw [e]; exact hfr.1)) (fun e => hn (by rw [e]; exact hfr.2)), rfl⟩) (had 7 (by omega) (by omega))
  obtain ⟨⟨hb1, hb2, hb3, hb4, hb5⟩, hk1, hk2, hk3, hk4, hk5⟩ := ho
  refine ⟨hq1.trans (congrArg some (oShop_ad (fun j _ _ => had j (by omega) (by omega)))), ⟨(hr _ (by omega) (by omega) (by omega) (by omega)).trans ha2, (hr _ (by omega) (by omega) (by omega) (by omega)).trans ha3, ha.trans (by rw [kqs_push (fun i hi => had _ (by omega) (by omega))]; rfl), (hr _ (by omega) (by omega) (by omega) (by omega)).trans ha5, (hr _ (by omega) (by omega) (by omega) (by omega)).trans ha6⟩, fun i (hi : i < mC M) => (hr _ (by omega) (by omega) (by omega) (by omega)).trans (hcl i hi), fun i (hi : i < mP M) => (hr _ (by omega) (by omega) (by omega) (by omega)).trans (hpe i hi), ?_, ?_, ?_, fun i (hi : i < mH M) => (hr _ (by omega) (by omega) (by omega) (by omega)).trans (hha i hi), fun i (hi : i < mO M) => (hr _ (by omega) (by omega) (by omega) (by omega)).trans (hod i hi), fun i (hi : i < mO M) => (hr _ (by omega) (by omega) (by omega) (by omega)).trans (hbo i hi)⟩
  · intro i (hi : i < mS M + 1)
    by_cases e : i = mS M
    · subst e
      refine hz.trans (congrArg some ?_)
      show oSt ad1 (mS M) (f) = oSt ad1 (mS M) (vf_upd (mst M) (mS M) f (mS M))
      rw [vu_s]
    · refine (hr _ (by omega) (by omega) (by omega) (by omega)).trans ((hst i (by omega)).trans (congrArg some ?_))
      show oSt ad1 i (mst M i) = oSt ad1 i (vf_upd (mst M) (mS M) f i)
      rw [vu_n e]
  · intro i (hi : i < mS M + 1)
    by_cases e : i = mS M
    · subst e
      refine hy.trans (congrArg some ?_)
      show (Sum.inl (cy 9, 5, aQ (fun _ => none)) : va_E) = (Sum.inl (cy 9, 5, aQ (kqs ad1 (40 + 5 * mS M) (vf_upd (mst M) (mS M) f (mS M)).1)) : va_E)
      rw [vu_s, hf0, kqs_0]
    · refine (hr _ (by omega) (by omega) (by omega) (by omega)).trans ((hsa i (by omega)).trans (congrArg some ?_))
      show (Sum.inl (cy 9, 5, aQ (kqs ad1 (40 + 5 * i) (mst M i).1)) : va_E) = (Sum.inl (cy 9, 5, aQ (kqs ad1 (40 + 5 * i) (vf_upd (mst M) (mS M) f i).1)) : va_E)
      rw [vu_n e]
  · intro i (hi : i < mS M + 1) j hj
    by_cases e : i = mS M
    · subst e
      have e2 : (mst (aSt M f) (mS M)) = f := vu_s
      rw [e2, hf0] at hj
      exact absurd hj (Nat.not_lt_zero _)
    · have e2 : (mst (aSt M f) i) = mst M i := vu_n e
      rw [e2] at hj ⊢
      have h5 := (hk3 i (by omega)).1
      exact (hr _ (by omega) (by omega) (by omega) (by omega)).trans (hpc i (by omega) j hj)
theorem FreeC_aSt {ct ct1 : Nat → Option va_E} {M : tM} (h : FreeC ct M) (ho : okM M) (f : tSt) (hlt : mS M < 3) (hr : ∀ j, j ≠ 1 → j ≠ 4 → j ≠ 32 + mS M → j ≠ 36 + mS M → ct1 j = ct j) : FreeC ct1 (aSt M f) := by
  obtain ⟨h1, h2, h3, h4, h5, h6⟩ := h
  obtain ⟨⟨hb1, hb2, hb3, hb4, hb5⟩, -⟩ := ho
  refine ⟨fun i (a : mC M ≤ i) b => (hr _ (by omega) (by omega) (by omega) (by omega)).trans (h1 i (by omega) b), fun i (a : mP M ≤ i) b => (hr _ (by omega) (by omega) (by omega) (by omega)).trans (h2 i (by omega) b), fun i (a : mS M + 1 ≤ i) b => ⟨(hr _ (by omega) (by omega) (by omega) (by omega)).trans (h3 i (by omega) b).1, (hr _ (by omega) (by omega) (by omega) (by omega)).trans (h3 i (by omega) b).2⟩, ?_, fun i (a : mH M ≤ i) b => (hr _ (by omega) (by omega) (by omega) (by omega)).trans (h5 i (by omega) b), fun i (a : mO M ≤ i) b => ⟨(hr _ (by omega) (by omega) (by omega) (by omega)).trans (h6 i (by omega) b).1, (hr _ (by omega) (by omega) (by omega) (by omega)).trans (h6 i (by omega) b).2⟩⟩
  · intro i a j b c
    refine (hr _ (by omega) (by omega) (by omega) (by omega)).trans (h4 i a j (fun q => ?_) c)
    have b2 := b (show i < mS M + 1 by omega)
    have e2 : (mst (aSt M f) i) = mst M i := vu_n (by omega)
    rw [e2] at b2
    exact b2
theorem RepC_aOr {cy : Nat → ClassId} {ad ad1 : Nat → Nat} {ct ct1 : Nat → Option va_E} {M : tM} (h : RepC cy ad ct M) (ho : okM M) (hlt : mO M < 8) (hfr : ct (64 + mO M) = none ∧ ct (72 + mO M) = none) (f : tOr) (hz : ct1 (64 + mO M) = some (oOr ad1 (mO M) (f))) (hy : ct1 (72 + mO M) = some (.inl (cy 0, 5, aD (oBod f)))) (ha : ct1 6 = some (.inl (cy 8, 8, aQ (va_up (kqs ad 64 (mO M)) (mO M) (some (ad1 (64 + mO M))))))) (hq1 : ct1 1 = some (oShop ad (aOr M f))) (hr : ∀ j, j ≠ 1 → j ≠ 6 → j ≠ 64 + mO M → j ≠ 72 + mO M → ct1 j = ct j) (had : ∀ j, j ≠ 64 + mO M → j ≠ 72 + mO M → ad1 j = ad j) : RepC cy ad1 ct1 (aOr M f) := by
  have hb0 := ho.1
  obtain ⟨h1, ⟨ha2, ha3, ha4, ha5, ha6⟩, hcl, hpe, hst, hsa, hpc, hha, hod, hbo⟩ := h.mv (ad1 := ad1) (ct1 := ct) ho (fun j _ (hn : ct j ≠ none) => ⟨had j (fun e => hn (by rw [e]; exact hfr.1)) (fun e => hn (by rw [e]; exact hfr.2)), rfl⟩) (had 7 (by omega) (by omega))
  obtain ⟨⟨hb1, hb2, hb3, hb4, hb5⟩, hk1, hk2, hk3, hk4, hk5⟩ := ho
  refine ⟨hq1.trans (congrArg some (oShop_ad (fun j _ _ => had j (by omega) (by omega)))), ⟨(hr _ (by omega) (by omega) (by omega) (by omega)).trans ha2, (hr _ (by omega) (by omega) (by omega) (by omega)).trans ha3, (hr _ (by omega) (by omega) (by omega) (by omega)).trans ha4, (hr _ (by omega) (by omega) (by omega) (by omega)).trans ha5, ha.trans (by rw [kqs_push (fun i hi => had _ (by omega) (by omega))]; rfl)⟩, fun i (hi : i < mC M) => (hr _ (by omega) (by omega) (by omega) (by omega)).trans (hcl i hi), fun i (hi : i < mP M) => (hr _ (by omega) (by omega) (by omega) (by omega)).trans (hpe i hi), fun i (hi : i < mS M) => (hr _ (by omega) (by omega) (by omega) (by omega)).trans (hst i hi), fun i (hi : i < mS M) => (hr _ (by omega) (by omega) (by omega) (by omega)).trans (hsa i hi), fun i (hi : i < mS M) j (hj : j < (mst M i).1) => (hr _ (by have h5 := (hk3 i hi).1; omega) (by have h5 := (hk3 i hi).1; omega) (by have h5 := (hk3 i hi).1; omega) (by have h5 := (hk3 i hi).1; omega)).trans (hpc i hi j hj), fun i (hi : i < mH M) => (hr _ (by omega) (by omega) (by omega) (by omega)).trans (hha i hi), ?_, ?_⟩
  · intro i (hi : i < mO M + 1)
    by_cases e : i = mO M
    · subst e
      refine hz.trans (congrArg some ?_)
      show oOr ad1 (mO M) (f) = oOr ad1 (mO M) (vf_upd (mod M) (mO M) f (mO M))
      rw [vu_s]
    · refine (hr _ (by omega) (by omega) (by omega) (by omega)).trans ((hod i (by omega)).trans (congrArg some ?_))
      show oOr ad1 i (mod M i) = oOr ad1 i (vf_upd (mod M) (mO M) f i)
      rw [vu_n e]
  · intro i (hi : i < mO M + 1)
    by_cases e : i = mO M
    · subst e
      refine hy.trans (congrArg some ?_)
      show (Sum.inl (cy 0, 5, aD (oBod f)) : va_E) = (Sum.inl (cy 0, 5, aD (oBod (vf_upd (mod M) (mO M) f (mO M)))) : va_E)
      rw [vu_s]
    · refine (hr _ (by omega) (by omega) (by omega) (by omega)).trans ((hbo i (by omega)).trans (congrArg some ?_))
      show (Sum.inl (cy 0, 5, aD (oBod (mod M i))) : va_E) = (Sum.inl (cy 0, 5, aD (oBod (vf_upd (mod M) (mO M) f i))) : va_E)
      rw [vu_n e]
theorem FreeC_aOr {ct ct1 : Nat → Option va_E} {M : tM} (h : FreeC ct M) (ho : okM M) (f : tOr) (hlt : mO M < 8) (hr : ∀ j, j ≠ 1 → j ≠ 6 → j ≠ 64 + mO M → j ≠ 72 + mO M → ct1 j = ct j) : FreeC ct1 (aOr M f) := by
  obtain ⟨h1, h2, h3, h4, h5, h6⟩ := h
  obtain ⟨⟨hb1, hb2, hb3, hb4, hb5⟩, -⟩ := ho
  refine ⟨fun i (a : mC M ≤ i) b => (hr _ (by omega) (by omega) (by omega) (by omega)).trans (h1 i (by omega) b), fun i (a : mP M ≤ i) b => (hr _ (by omega) (by omega) (by omega) (by omega)).trans (h2 i (by omega) b), fun i (a : mS M ≤ i) b => ⟨(hr _ (by omega) (by omega) (by omega) (by omega)).trans (h3 i (by omega) b).1, (hr _ (by omega) (by omega) (by omega) (by omega)).trans (h3 i (by omega) b).2⟩, fun i a j (b : i < mS M → (mst M i).1 ≤ j) c => (hr _ (by omega) (by omega) (by omega) (by omega)).trans (h4 i a j b c), fun i (a : mH M ≤ i) b => (hr _ (by omega) (by omega) (by omega) (by omega)).trans (h5 i (by omega) b), fun i (a : mO M + 1 ≤ i) b => ⟨(hr _ (by omega) (by omega) (by omega) (by omega)).trans (h6 i (by omega) b).1, (hr _ (by omega) (by omega) (by omega) (by omega)).trans (h6 i (by omega) b).2⟩⟩
theorem fCnt_upd {ps : Nat → tPc} {n : Nat} {pc : tPc} : ∀ k, k ≤ n → fCnt (vf_upd ps n pc) k = fCnt ps k
  | 0, _ => rfl
  | k + 1, h => by
    show fCnt (vf_upd ps n pc) k + (vf_upd ps n pc k).2.2.2 = fCnt ps k + (ps k).2.2.2
    rw [fCnt_upd k (by omega), vu_n (by omega)]
theorem fCnt_push {ps : Nat → tPc} {n : Nat} {pc : tPc} : fCnt (vf_upd ps n pc) (n + 1) = fCnt ps n + pc.2.2.2 := by
  show fCnt (vf_upd ps n pc) n + (vf_upd ps n pc n).2.2.2 = _
  rw [fCnt_upd n (Nat.le_refl n), vu_s]
abbrev zPc (s : tSt) (pc : tPc) : tSt := (s.1 + 1, vf_upd s.2.1 s.1 pc, s.2.2)
theorem RepC_aPc {cy : Nat → ClassId} {ad ad1 : Nat → Nat} {ct ct1 : Nat → Option va_E} {M : tM} (h : RepC cy ad ct M) (ho : okM M) {k : Nat} (hk : k < mS M) (hlt : (mst M k).1 < 5) (hfr : ct (40 + 5 * k + (mst M k).1) = none) (pc : tPc) (hz : ct1 (40 + 5 * k + (mst M k).1) = some (oPc pc)) (ha : ct1 (36 + k) = some (.inl (cy 9, 5, aQ (va_up (kqs ad (40 + 5 * k) (mst M k).1) (mst M k).1 (some (ad1 (40 + 5 * k + (mst M k).1))))))) (hs : ct1 (32 + k) = some (oSt ad k (zPc (mst M k) pc))) (hr : ∀ j, j ≠ 32 + k → j ≠ 36 + k → j ≠ 40 + 5 * k + (mst M k).1 → ct1 j = ct j) (had : ∀ j, j ≠ 40 + 5 * k + (mst M k).1 → ad1 j = ad j) : RepC cy ad1 ct1 (sSt M k (zPc (mst M k) pc)) := by
  have hb0 := ho.1
  obtain ⟨h1, ⟨ha2, ha3, ha4, ha5, ha6⟩, hcl, hpe, hst, hsa, hpc, hha, hod, hbo⟩ := h.mv (ad1 := ad1) (ct1 := ct) ho (fun j _ (hn : ct j ≠ none) => ⟨had j (fun e => hn (by rw [e]; exact hfr)), rfl⟩) (had 7 (by omega))
  obtain ⟨⟨hb1, hb2, hb3, hb4, hb5⟩, hk1, hk2, hk3, hk4, hk5⟩ := ho
  refine ⟨(hr _ (by omega) (by omega) (by omega)).trans h1, ⟨(hr _ (by omega) (by omega) (by omega)).trans ha2, (hr _ (by omega) (by omega) (by omega)).trans ha3, (hr _ (by omega) (by omega) (by omega)).trans ha4, (hr _ (by omega) (by omega) (by omega)).trans ha5, (hr _ (by omega) (by omega) (by omega)).trans ha6⟩, fun i (hi : i < mC M) => (hr _ (by omega) (by omega) (by omega)).trans (hcl i hi), fun i (hi : i < mP M) => (hr _ (by omega) (by omega) (by omega)).trans (hpe i hi), ?_, ?_, ?_, fun i (hi : i < mH M) => (hr _ (by omega) (by omega) (by omega)).trans (hha i hi), fun i (hi : i < mO M) => (hr _ (by omega) (by omega) (by omega)).trans (hod i hi), fun i (hi : i < mO M) => (hr _ (by omega) (by omega) (by omega)).trans (hbo i hi)⟩
  · intro i (hi : i < mS M)
    by_cases e : i = k
    · subst e
      refine hs.trans (congrArg some ?_)
      show oSt ad i (zPc (mst M i) pc) = oSt ad1 i (vf_upd (mst M) i (zPc (mst M i) pc) i)
      rw [vu_s]
      unfold oSt
      rw [had (36 + i) (by omega)]
    · refine (hr _ (by omega) (by omega) (by omega)).trans ((hst i hi).trans (congrArg some ?_))
      show oSt ad1 i (mst M i) = oSt ad1 i (vf_upd (mst M) k (zPc (mst M k) pc) i)
      rw [vu_n e]
  · intro i (hi : i < mS M)
    by_cases e : i = k
    · subst e
      refine ha.trans (congrArg some ?_)
      rw [kqs_push (fun q hq => had _ (by omega))]
      show (Sum.inl (cy 9, 5, aQ (kqs ad1 (40 + 5 * i) ((mst M i).1 + 1))) : va_E) = (Sum.inl (cy 9, 5, aQ (kqs ad1 (40 + 5 * i) (vf_upd (mst M) i (zPc (mst M i) pc) i).1)) : va_E)
      rw [vu_s]
    · refine (hr _ (by omega) (by omega) (by omega)).trans ((hsa i hi).trans (congrArg some ?_))
      show (Sum.inl (cy 9, 5, aQ (kqs ad1 (40 + 5 * i) (mst M i).1)) : va_E) = (Sum.inl (cy 9, 5, aQ (kqs ad1 (40 + 5 * i) (vf_upd (mst M) k (zPc (mst M k) pc) i).1)) : va_E)
      rw [vu_n e]
  · intro i (hi : i < mS M) j hj
    have h5 := (hk3 i hi).1
    have h6 := (hk3 k hk).1
    by_cases e : i = k
    · subst e
      have e2 : (mst (sSt M i (zPc (mst M i) pc)) i) = zPc (mst M i) pc := vu_s
      rw [e2] at hj ⊢
      have hj' : j < (mst M i).1 + 1 := hj
      by_cases e3 : j = (mst M i).1
      · subst e3
        show ct1 _ = some (oPc (vf_upd (mst M i).2.1 (mst M i).1 pc (mst M i).1))
        rw [vu_s]
        exact hz
      · show ct1 _ = some (oPc (vf_upd (mst M i).2.1 (mst M i).1 pc j))
        rw [vu_n e3]
        exact (hr _ (by omega) (by omega) (by omega)).trans (hpc i hi j (by omega))
    · have e2 : (mst (sSt M k (zPc (mst M k) pc)) i) = mst M i := vu_n e
      rw [e2] at hj ⊢
      exact (hr _ (by omega) (by omega) (by omega)).trans (hpc i hi j hj)
theorem FreeC_aPc {ct ct1 : Nat → Option va_E} {M : tM} (h : FreeC ct M) (ho : okM M) {k : Nat} (hk : k < mS M) (hlt : (mst M k).1 < 5) (pc : tPc) (hr : ∀ j, j ≠ 32 + k → j ≠ 36 + k → j ≠ 40 + 5 * k + (mst M k).1 → ct1 j = ct j) : FreeC ct1 (sSt M k (zPc (mst M k) pc)) := by
  obtain ⟨h1, h2, h3, h4, h5, h6⟩ := h
  obtain ⟨⟨hb1, hb2, hb3, hb4, hb5⟩, -⟩ := ho
  refine ⟨fun i (a : mC M ≤ i) b => (hr _ (by omega) (by omega) (by omega)).trans (h1 i a b), fun i (a : mP M ≤ i) b => (hr _ (by omega) (by omega) (by omega)).trans (h2 i a b), fun i (a : mS M ≤ i) b => ⟨(hr _ (by omega) (by omega) (by omega)).trans (h3 i a b).1, (hr _ (by omega) (by omega) (by omega)).trans (h3 i a b).2⟩, ?_, fun i (a : mH M ≤ i) b => (hr _ (by omega) (by omega) (by omega)).trans (h5 i a b), fun i (a : mO M ≤ i) b => ⟨(hr _ (by omega) (by omega) (by omega)).trans (h6 i a b).1, (hr _ (by omega) (by omega) (by omega)).trans (h6 i a b).2⟩⟩
  intro i a j b c
  by_cases e : i = k
  · subst e
    have e2 : (mst (sSt M i (zPc (mst M i) pc)) i) = zPc (mst M i) pc := vu_s
    have b2 := b hk
    rw [e2] at b2
    have b3 : (mst M i).1 + 1 ≤ j := b2
    exact (hr _ (by omega) (by omega) (by omega)).trans (h4 i a j (fun _ => by omega) c)
  · have e2 : (mst (sSt M k (zPc (mst M k) pc)) i) = mst M i := vu_n e
    refine (hr _ (by omega) (by omega) (by omega)).trans (h4 i a j (fun q => ?_) c)
    have b2 := b q
    rw [e2] at b2
    exact b2
