/-! the shop set at one place -/
def sSh (M : tM) (s : tSh) : tM := (M.1, s, M.2.2)
def sCl (M : tM) (i : Nat) (c : tCl) : tM := (M.1, M.2.1, vf_upd M.2.2.1 i c, M.2.2.2)
def sPe (M : tM) (i : Nat) (f : Nat → Nat) : tM := (M.1, M.2.1, M.2.2.1, vf_upd M.2.2.2.1 i f, M.2.2.2.2)
def sSt (M : tM) (i : Nat) (f : tSt) : tM := (M.1, M.2.1, M.2.2.1, M.2.2.2.1, vf_upd M.2.2.2.2.1 i f, M.2.2.2.2.2)
def sHa (M : tM) (i : Nat) (f : tHa) : tM := (M.1, M.2.1, M.2.2.1, M.2.2.2.1, M.2.2.2.2.1, vf_upd M.2.2.2.2.2.1 i f, M.2.2.2.2.2.2)
def sOr (M : tM) (i : Nat) (f : tOr) : tM := (M.1, M.2.1, M.2.2.1, M.2.2.2.1, M.2.2.2.2.1, M.2.2.2.2.2.1, vf_upd M.2.2.2.2.2.2 i f)
/-- the counts set -/
def sNs (M : tM) (n : tNs) : tM := (n, M.2)
theorem vu_s {α : Type} {f : Nat → α} {k : Nat} {x : α} : vf_upd f k x k = x := if_pos rfl
theorem vu_n {α : Type} {f : Nat → α} {k j : Nat} {x : α} (h : j ≠ k) : vf_upd f k x j = f j := if_neg h
theorem FreeC.kp {ct ct' : Nat → Option va_E} {M : tM} (h : FreeC ct M) (key : ∀ j, ct j = none → ct' j = none) : FreeC ct' M := by
  obtain ⟨h1, h2, h3, h4, h5, h6⟩ := h
  exact ⟨fun i a b => key _ (h1 i a b), fun i a b => key _ (h2 i a b), fun i a b => ⟨key _ (h3 i a b).1, key _ (h3 i a b).2⟩, fun i a j b c => key _ (h4 i a j b c), fun i a b => key _ (h5 i a b), fun i a b => ⟨key _ (h6 i a b).1, key _ (h6 i a b).2⟩⟩
theorem RepT.kp {cy : Nat → ClassId} {ad : Nat → Nat} {ct ct' : Nat → Option va_E} {tb : tTb} {fl fw fh fr : Nat → UInt64} (h : RepT cy ad ct tb fl fw fh fr) (hk : ∀ k, 7 ≤ k → k ≤ 11 → ct' k = ct k) : RepT cy ad ct' tb fl fw fh fr :=
  ⟨(hk _ (by omega) (by omega)).trans h.1, (hk _ (by omega) (by omega)).trans h.2.1, (hk _ (by omega) (by omega)).trans h.2.2.1, (hk _ (by omega) (by omega)).trans h.2.2.2.1, (hk _ (by omega) (by omega)).trans h.2.2.2.2⟩

theorem RepC_sSh {cy : Nat → ClassId} {ad : Nat → Nat} {ct ct' : Nat → Option va_E} {M : tM} (h : RepC cy ad ct M) (ho : okM M) (x : tSh) (hv0 : ct' (1) = some (oShop ad (sSh M x))) (hr : ∀ j, j ≠ 1 → ct' j = ct j) : RepC cy ad ct' (sSh M x) := by
  obtain ⟨h1, ⟨ha2, ha3, ha4, ha5, ha6⟩, hcl, hpe, hst, hsa, hpc, hha, hod, hbo⟩ := h
  obtain ⟨⟨hb1, hb2, hb3, hb4, hb5⟩, hk1, hk2, hk3, hk4, hk5⟩ := ho
  refine ⟨hv0, ⟨(hr _ (by omega)).trans ha2, (hr _ (by omega)).trans ha3, (hr _ (by omega)).trans ha4, (hr _ (by omega)).trans ha5, (hr _ (by omega)).trans ha6⟩, fun i (hi : i < mC M) => (hr _ (by omega)).trans (hcl i hi), fun i (hi : i < mP M) => (hr _ (by omega)).trans (hpe i hi), fun i (hi : i < mS M) => (hr _ (by omega)).trans (hst i hi), fun i (hi : i < mS M) => (hr _ (by omega)).trans (hsa i hi), fun i (hi : i < mS M) j (hj : j < (mst M i).1) => (hr _ (by have h5 := (hk3 i hi).1; omega)).trans (hpc i hi j hj), fun i (hi : i < mH M) => (hr _ (by omega)).trans (hha i hi), fun i (hi : i < mO M) => (hr _ (by omega)).trans (hod i hi), fun i (hi : i < mO M) => (hr _ (by omega)).trans (hbo i hi)⟩

theorem RepC_sCl {cy : Nat → ClassId} {ad : Nat → Nat} {ct ct' : Nat → Option va_E} {M : tM} (h : RepC cy ad ct M) (ho : okM M) {k : Nat} (hk : k < mC M) (x : tCl) (hv0 : ct' (16 + k) = some (oCl x)) (hr : ∀ j, j ≠ 16 + k → ct' j = ct j) : RepC cy ad ct' (sCl M k x) := by
  obtain ⟨h1, ⟨ha2, ha3, ha4, ha5, ha6⟩, hcl, hpe, hst, hsa, hpc, hha, hod, hbo⟩ := h
  obtain ⟨⟨hb1, hb2, hb3, hb4, hb5⟩, hk1, hk2, hk3, hk4, hk5⟩ := ho
  refine ⟨(hr _ (by omega)).trans h1, ⟨(hr _ (by omega)).trans ha2, (hr _ (by omega)).trans ha3, (hr _ (by omega)).trans ha4, (hr _ (by omega)).trans ha5, (hr _ (by omega)).trans ha6⟩, ?_, fun i (hi : i < mP M) => (hr _ (by omega)).trans (hpe i hi), fun i (hi : i < mS M) => (hr _ (by omega)).trans (hst i hi), fun i (hi : i < mS M) => (hr _ (by omega)).trans (hsa i hi), fun i (hi : i < mS M) j (hj : j < (mst M i).1) => (hr _ (by have h5 := (hk3 i hi).1; omega)).trans (hpc i hi j hj), fun i (hi : i < mH M) => (hr _ (by omega)).trans (hha i hi), fun i (hi : i < mO M) => (hr _ (by omega)).trans (hod i hi), fun i (hi : i < mO M) => (hr _ (by omega)).trans (hbo i hi)⟩
  · intro i (hi : i < mC M)
    by_cases e : i = k
    · subst e
      refine hv0.trans (congrArg some ?_)
      show oCl x = oCl (vf_upd (mcl M) _ x i)
      rw [vu_s]
    · refine (hr _ (by omega)).trans ((hcl i hi).trans (congrArg some ?_))
      show oCl (mcl M i) = oCl (vf_upd (mcl M) _ x i)
      rw [vu_n e]

theorem RepC_sPe {cy : Nat → ClassId} {ad : Nat → Nat} {ct ct' : Nat → Option va_E} {M : tM} (h : RepC cy ad ct M) (ho : okM M) {k : Nat} (hk : k < mP M) (x : Nat → Nat) (hv0 : ct' (24 + k) = some (oPer (nI k) x)) (hr : ∀ j, j ≠ 24 + k → ct' j = ct j) : RepC cy ad ct' (sPe M k x) := by
  obtain ⟨h1, ⟨ha2, ha3, ha4, ha5, ha6⟩, hcl, hpe, hst, hsa, hpc, hha, hod, hbo⟩ := h
  obtain ⟨⟨hb1, hb2, hb3, hb4, hb5⟩, hk1, hk2, hk3, hk4, hk5⟩ := ho
  refine ⟨(hr _ (by omega)).trans h1, ⟨(hr _ (by omega)).trans ha2, (hr _ (by omega)).trans ha3, (hr _ (by omega)).trans ha4, (hr _ (by omega)).trans ha5, (hr _ (by omega)).trans ha6⟩, fun i (hi : i < mC M) => (hr _ (by omega)).trans (hcl i hi), ?_, fun i (hi : i < mS M) => (hr _ (by omega)).trans (hst i hi), fun i (hi : i < mS M) => (hr _ (by omega)).trans (hsa i hi), fun i (hi : i < mS M) j (hj : j < (mst M i).1) => (hr _ (by have h5 := (hk3 i hi).1; omega)).trans (hpc i hi j hj), fun i (hi : i < mH M) => (hr _ (by omega)).trans (hha i hi), fun i (hi : i < mO M) => (hr _ (by omega)).trans (hod i hi), fun i (hi : i < mO M) => (hr _ (by omega)).trans (hbo i hi)⟩
  · intro i (hi : i < mP M)
    by_cases e : i = k
    · subst e
      refine hv0.trans (congrArg some ?_)
      show oPer (nI i) x = oPer (nI i) (vf_upd (mpe M) _ x i)
      rw [vu_s]
    · refine (hr _ (by omega)).trans ((hpe i hi).trans (congrArg some ?_))
      show oPer (nI i) (mpe M i) = oPer (nI i) (vf_upd (mpe M) _ x i)
      rw [vu_n e]

theorem RepC_sHa {cy : Nat → ClassId} {ad : Nat → Nat} {ct ct' : Nat → Option va_E} {M : tM} (h : RepC cy ad ct M) (ho : okM M) {k : Nat} (hk : k < mH M) (x : tHa) (hv0 : ct' (56 + k) = some (oHa x)) (hr : ∀ j, j ≠ 56 + k → ct' j = ct j) : RepC cy ad ct' (sHa M k x) := by
  obtain ⟨h1, ⟨ha2, ha3, ha4, ha5, ha6⟩, hcl, hpe, hst, hsa, hpc, hha, hod, hbo⟩ := h
  obtain ⟨⟨hb1, hb2, hb3, hb4, hb5⟩, hk1, hk2, hk3, hk4, hk5⟩ := ho
  refine ⟨(hr _ (by omega)).trans h1, ⟨(hr _ (by omega)).trans ha2, (hr _ (by omega)).trans ha3, (hr _ (by omega)).trans ha4, (hr _ (by omega)).trans ha5, (hr _ (by omega)).trans ha6⟩, fun i (hi : i < mC M) => (hr _ (by omega)).trans (hcl i hi), fun i (hi : i < mP M) => (hr _ (by omega)).trans (hpe i hi), fun i (hi : i < mS M) => (hr _ (by omega)).trans (hst i hi), fun i (hi : i < mS M) => (hr _ (by omega)).trans (hsa i hi), fun i (hi : i < mS M) j (hj : j < (mst M i).1) => (hr _ (by have h5 := (hk3 i hi).1; omega)).trans (hpc i hi j hj), ?_, fun i (hi : i < mO M) => (hr _ (by omega)).trans (hod i hi), fun i (hi : i < mO M) => (hr _ (by omega)).trans (hbo i hi)⟩
  · intro i (hi : i < mH M)
    by_cases e : i = k
    · subst e
      refine hv0.trans (congrArg some ?_)
      show oHa x = oHa (vf_upd (mha M) _ x i)
      rw [vu_s]
    · refine (hr _ (by omega)).trans ((hha i hi).trans (congrArg some ?_))
      show oHa (mha M i) = oHa (vf_upd (mha M) _ x i)
      rw [vu_n e]

theorem RepC_sOr {cy : Nat → ClassId} {ad : Nat → Nat} {ct ct' : Nat → Option va_E} {M : tM} (h : RepC cy ad ct M) (ho : okM M) {k : Nat} (hk : k < mO M) (x : tOr) (hv0 : ct' (64 + k) = some (oOr ad k x)) (hv1 : ct' (72 + k) = some (.inl (cy 0, 5, aD (oBod x)))) (hr : ∀ j, j ≠ 64 + k → j ≠ 72 + k → ct' j = ct j) : RepC cy ad ct' (sOr M k x) := by
  obtain ⟨h1, ⟨ha2, ha3, ha4, ha5, ha6⟩, hcl, hpe, hst, hsa, hpc, hha, hod, hbo⟩ := h
  obtain ⟨⟨hb1, hb2, hb3, hb4, hb5⟩, hk1, hk2, hk3, hk4, hk5⟩ := ho
  refine ⟨(hr _ (by omega) (by omega)).trans h1, ⟨(hr _ (by omega) (by omega)).trans ha2, (hr _ (by omega) (by omega)).trans ha3, (hr _ (by omega) (by omega)).trans ha4, (hr _ (by omega) (by omega)).trans ha5, (hr _ (by omega) (by omega)).trans ha6⟩, fun i (hi : i < mC M) => (hr _ (by omega) (by omega)).trans (hcl i hi), fun i (hi : i < mP M) => (hr _ (by omega) (by omega)).trans (hpe i hi), fun i (hi : i < mS M) => (hr _ (by omega) (by omega)).trans (hst i hi), fun i (hi : i < mS M) => (hr _ (by omega) (by omega)).trans (hsa i hi), fun i (hi : i < mS M) j (hj : j < (mst M i).1) => (hr _ (by have h5 := (hk3 i hi).1; omega) (by have h5 := (hk3 i hi).1; omega)).trans (hpc i hi j hj), fun i (hi : i < mH M) => (hr _ (by omega) (by omega)).trans (hha i hi), ?_, ?_⟩
  · intro i (hi : i < mO M)
    by_cases e : i = k
    · subst e
      refine hv0.trans (congrArg some ?_)
      show oOr ad i x = oOr ad i (vf_upd (mod M) _ x i)
      rw [vu_s]
    · refine (hr _ (by omega) (by omega)).trans ((hod i hi).trans (congrArg some ?_))
      show oOr ad i (mod M i) = oOr ad i (vf_upd (mod M) _ x i)
      rw [vu_n e]
  · intro i (hi : i < mO M)
    by_cases e : i = k
    · subst e
      refine hv1.trans (congrArg some ?_)
      show (Sum.inl (cy 0, 5, aD (oBod x)) : va_E) = (Sum.inl (cy 0, 5, aD (oBod (vf_upd (mod M) _ x i))) : va_E)
      rw [vu_s]
    · refine (hr _ (by omega) (by omega)).trans ((hbo i hi).trans (congrArg some ?_))
      show (Sum.inl (cy 0, 5, aD (oBod (mod M i))) : va_E) = (Sum.inl (cy 0, 5, aD (oBod (vf_upd (mod M) _ x i))) : va_E)
      rw [vu_n e]

theorem RepC_sSt {cy : Nat → ClassId} {ad : Nat → Nat} {ct ct' : Nat → Option va_E} {M : tM} (h : RepC cy ad ct M) (ho : okM M) {k : Nat} (hk : k < mS M) (x : tSt) (hx : x.1 = (mst M k).1 ∧ x.2.1 = (mst M k).2.1) (hv0 : ct' (32 + k) = some (oSt ad k x)) (hr : ∀ j, j ≠ 32 + k → ct' j = ct j) : RepC cy ad ct' (sSt M k x) := by
  obtain ⟨h1, ⟨ha2, ha3, ha4, ha5, ha6⟩, hcl, hpe, hst, hsa, hpc, hha, hod, hbo⟩ := h
  obtain ⟨⟨hb1, hb2, hb3, hb4, hb5⟩, hk1, hk2, hk3, hk4, hk5⟩ := ho
  refine ⟨(hr _ (by omega)).trans h1, ⟨(hr _ (by omega)).trans ha2, (hr _ (by omega)).trans ha3, (hr _ (by omega)).trans ha4, (hr _ (by omega)).trans ha5, (hr _ (by omega)).trans ha6⟩, fun i (hi : i < mC M) => (hr _ (by omega)).trans (hcl i hi), fun i (hi : i < mP M) => (hr _ (by omega)).trans (hpe i hi), ?_, ?_, ?_, fun i (hi : i < mH M) => (hr _ (by omega)).trans (hha i hi), fun i (hi : i < mO M) => (hr _ (by omega)).trans (hod i hi), fun i (hi : i < mO M) => (hr _ (by omega)).trans (hbo i hi)⟩
  · intro i (hi : i < mS M)
    by_cases e : i = k
    · subst e
      refine hv0.trans (congrArg some ?_)
      show oSt ad i x = oSt ad i (vf_upd (mst M) _ x i)
      rw [vu_s]
    · refine (hr _ (by omega)).trans ((hst i hi).trans (congrArg some ?_))
      show oSt ad i (mst M i) = oSt ad i (vf_upd (mst M) _ x i)
      rw [vu_n e]
  · intro i (hi : i < mS M)
    by_cases e : i = k
    · subst e
      refine (hr _ (by omega)).trans ((hsa i hi).trans (congrArg some ?_))
      show (Sum.inl (cy 9, 5, aQ (kqs ad (40 + 5 * i) (mst M i).1)) : va_E) = (Sum.inl (cy 9, 5, aQ (kqs ad (40 + 5 * i) (vf_upd (mst M) _ x i).1)) : va_E)
      rw [vu_s, hx.1]
    · refine (hr _ (by omega)).trans ((hsa i hi).trans (congrArg some ?_))
      show (Sum.inl (cy 9, 5, aQ (kqs ad (40 + 5 * i) (mst M i).1)) : va_E) = (Sum.inl (cy 9, 5, aQ (kqs ad (40 + 5 * i) (vf_upd (mst M) _ x i).1)) : va_E)
      rw [vu_n e]
  · intro i (hi : i < mS M) j hj
    by_cases e : i = k
    · subst e
      have e2 : (mst (sSt M i x) i) = x := vu_s
      rw [e2] at hj ⊢
      have h5 := (hk3 i hk).1
      rw [hx.1] at hj
      refine (hr _ (by omega)).trans ((hpc i hi j hj).trans ?_)
      rw [hx.2]
    · have e2 : (mst (sSt M k x) i) = mst M i := vu_n e
      rw [e2] at hj ⊢
      have h5 := (hk3 i hi).1
      exact (hr _ (by omega)).trans (hpc i hi j hj)
