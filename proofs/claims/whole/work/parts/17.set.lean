/-! the shop set at one place -/
def sSh (M : tM) (s : tSh) : tM := (M.1, s, M.2.2)
def sCl (M : tM) (i : Nat) (c : tCl) : tM := (M.1, M.2.1, vf_upd M.2.2.1 i c, M.2.2.2)
def sPe (M : tM) (i : Nat) (f : Nat → Nat) : tM := (M.1, M.2.1, M.2.2.1, vf_upd M.2.2.2.1 i f, M.2.2.2.2)
def sSt (M : tM) (i : Nat) (f : tSt) : tM := (M.1, M.2.1, M.2.2.1, M.2.2.2.1, vf_upd M.2.2.2.2.1 i f, M.2.2.2.2.2)
def sHa (M : tM) (i : Nat) (f : tHa) : tM := (M.1, M.2.1, M.2.2.1, M.2.2.2.1, M.2.2.2.2.1, vf_upd M.2.2.2.2.2.1 i f, M.2.2.2.2.2.2)
def sOr (M : tM) (i : Nat) (f : tOr) : tM := (M.1, M.2.1, M.2.2.1, M.2.2.2.1, M.2.2.2.2.1, M.2.2.2.2.2.1, vf_upd M.2.2.2.2.2.2 i f)
theorem vu_s {α : Type} {f : Nat → α} {k : Nat} {x : α} : vf_upd f k x k = x := if_pos rfl
theorem vu_n {α : Type} {f : Nat → α} {k j : Nat} {x : α} (h : j ≠ k) : vf_upd f k x j = f j := if_neg h
theorem FreeC.up {ct : Nat → Option va_E} {M : tM} {k : Nat} {e e0 : va_E} (h : FreeC ct M) (hk : ct k = some e0) : FreeC (up ct k e) M := by
  have key : ∀ j, ct j = none → up ct k e j = none := by
    intro j hj
    refine (up_n (fun z => ?_)).trans hj
    rw [z, hk] at hj
    cases hj
  obtain ⟨h1, h2, h3, h4, h5, h6⟩ := h
  exact ⟨fun i a b => key _ (h1 i a b), fun i a b => key _ (h2 i a b), fun i a b => ⟨key _ (h3 i a b).1, key _ (h3 i a b).2⟩, fun i a j b c => key _ (h4 i a j b c), fun i a b => key _ (h5 i a b), fun i a b => ⟨key _ (h6 i a b).1, key _ (h6 i a b).2⟩⟩
theorem RepT.up {cy : Nat → ClassId} {ad : Nat → Nat} {ct : Nat → Option va_E} {tb : tTb} {fl fw fh fr : Nat → UInt64} {k : Nat} {e : va_E} (h : RepT cy ad ct tb fl fw fh fr) (hk : k < 7 ∨ 11 < k) : RepT cy ad (up ct k e) tb fl fw fh fr :=
  ⟨(up_n (by omega)).trans h.1, (up_n (by omega)).trans h.2.1, (up_n (by omega)).trans h.2.2.1, (up_n (by omega)).trans h.2.2.2.1, (up_n (by omega)).trans h.2.2.2.2⟩

theorem RepC.sSh {cy : Nat → ClassId} {ad : Nat → Nat} {ct : Nat → Option va_E} {M : tM} (h : RepC cy ad ct M) (ho : okM M) (x : tSh) : RepC cy ad (up ct 1 (oShop ad (sSh M x))) (sSh M x) := by
  obtain ⟨h1, ⟨ha2, ha3, ha4, ha5, ha6⟩, hcl, hpe, hst, hsa, hpc, hha, hod, hbo⟩ := h
  obtain ⟨⟨hb1, hb2, hb3, hb4, hb5⟩, hk1, hk2, hk3, hk4, hk5⟩ := ho
  exact ⟨up_s, ⟨(up_n (by omega)).trans ha2, (up_n (by omega)).trans ha3, (up_n (by omega)).trans ha4, (up_n (by omega)).trans ha5, (up_n (by omega)).trans ha6⟩, fun i hi => (up_n (by omega)).trans (hcl i hi), fun i hi => (up_n (by omega)).trans (hpe i hi), fun i hi => (up_n (by omega)).trans (hst i hi), fun i hi => (up_n (by omega)).trans (hsa i hi), fun i hi j hj => (up_n (by omega)).trans (hpc i hi j hj), fun i hi => (up_n (by omega)).trans (hha i hi), fun i hi => (up_n (by omega)).trans (hod i hi), fun i hi => (up_n (by omega)).trans (hbo i hi)⟩

theorem RepC.sCl {cy : Nat → ClassId} {ad : Nat → Nat} {ct : Nat → Option va_E} {M : tM} (h : RepC cy ad ct M) (ho : okM M) {k : Nat} (hk : k < mC M) (x : tCl) : RepC cy ad (up ct (16 + k) (oCl x)) (sCl M k x) := by
  obtain ⟨h1, ⟨ha2, ha3, ha4, ha5, ha6⟩, hcl, hpe, hst, hsa, hpc, hha, hod, hbo⟩ := h
  obtain ⟨⟨hb1, hb2, hb3, hb4, hb5⟩, hk1, hk2, hk3, hk4, hk5⟩ := ho
  refine ⟨(up_n (by omega)).trans h1, ⟨(up_n (by omega)).trans ha2, (up_n (by omega)).trans ha3, (up_n (by omega)).trans ha4, (up_n (by omega)).trans ha5, (up_n (by omega)).trans ha6⟩, fun i hi => ?_, fun i hi => (up_n (by omega)).trans (hpe i hi), fun i hi => (up_n (by omega)).trans (hst i hi), fun i hi => (up_n (by omega)).trans (hsa i hi), fun i hi j hj => (up_n (by have h5 := (hk3 i hi).1; have h6 : j < (mst M i).1 := hj; omega)).trans (hpc i hi j hj), fun i hi => (up_n (by omega)).trans (hha i hi), fun i hi => (up_n (by omega)).trans (hod i hi), fun i hi => (up_n (by omega)).trans (hbo i hi)⟩
  · by_cases e : i = k
    · subst e
      refine up_s.trans (congrArg some ?_)
      show oCl x = oCl (vf_upd (mcl M) _ x i)
      rw [vu_s]
    · refine (up_n (by omega)).trans ((hcl i hi).trans (congrArg some ?_))
      show oCl (mcl M i) = oCl (vf_upd (mcl M) _ x i)
      rw [vu_n e]

theorem RepC.sPe {cy : Nat → ClassId} {ad : Nat → Nat} {ct : Nat → Option va_E} {M : tM} (h : RepC cy ad ct M) (ho : okM M) {k : Nat} (hk : k < mP M) (x : Nat → Nat) : RepC cy ad (up ct (24 + k) (oPer (nI k) x)) (sPe M k x) := by
  obtain ⟨h1, ⟨ha2, ha3, ha4, ha5, ha6⟩, hcl, hpe, hst, hsa, hpc, hha, hod, hbo⟩ := h
  obtain ⟨⟨hb1, hb2, hb3, hb4, hb5⟩, hk1, hk2, hk3, hk4, hk5⟩ := ho
  refine ⟨(up_n (by omega)).trans h1, ⟨(up_n (by omega)).trans ha2, (up_n (by omega)).trans ha3, (up_n (by omega)).trans ha4, (up_n (by omega)).trans ha5, (up_n (by omega)).trans ha6⟩, fun i hi => (up_n (by omega)).trans (hcl i hi), fun i hi => ?_, fun i hi => (up_n (by omega)).trans (hst i hi), fun i hi => (up_n (by omega)).trans (hsa i hi), fun i hi j hj => (up_n (by have h5 := (hk3 i hi).1; have h6 : j < (mst M i).1 := hj; omega)).trans (hpc i hi j hj), fun i hi => (up_n (by omega)).trans (hha i hi), fun i hi => (up_n (by omega)).trans (hod i hi), fun i hi => (up_n (by omega)).trans (hbo i hi)⟩
  · by_cases e : i = k
    · subst e
      refine up_s.trans (congrArg some ?_)
      show oPer (nI i) x = oPer (nI i) (vf_upd (mpe M) _ x i)
      rw [vu_s]
    · refine (up_n (by omega)).trans ((hpe i hi).trans (congrArg some ?_))
      show oPer (nI i) (mpe M i) = oPer (nI i) (vf_upd (mpe M) _ x i)
      rw [vu_n e]

theorem RepC.sHa {cy : Nat → ClassId} {ad : Nat → Nat} {ct : Nat → Option va_E} {M : tM} (h : RepC cy ad ct M) (ho : okM M) {k : Nat} (hk : k < mH M) (x : tHa) : RepC cy ad (up ct (56 + k) (oHa x)) (sHa M k x) := by
  obtain ⟨h1, ⟨ha2, ha3, ha4, ha5, ha6⟩, hcl, hpe, hst, hsa, hpc, hha, hod, hbo⟩ := h
  obtain ⟨⟨hb1, hb2, hb3, hb4, hb5⟩, hk1, hk2, hk3, hk4, hk5⟩ := ho
  refine ⟨(up_n (by omega)).trans h1, ⟨(up_n (by omega)).trans ha2, (up_n (by omega)).trans ha3, (up_n (by omega)).trans ha4, (up_n (by omega)).trans ha5, (up_n (by omega)).trans ha6⟩, fun i hi => (up_n (by omega)).trans (hcl i hi), fun i hi => (up_n (by omega)).trans (hpe i hi), fun i hi => (up_n (by omega)).trans (hst i hi), fun i hi => (up_n (by omega)).trans (hsa i hi), fun i hi j hj => (up_n (by have h5 := (hk3 i hi).1; have h6 : j < (mst M i).1 := hj; omega)).trans (hpc i hi j hj), fun i hi => ?_, fun i hi => (up_n (by omega)).trans (hod i hi), fun i hi => (up_n (by omega)).trans (hbo i hi)⟩
  · by_cases e : i = k
    · subst e
      refine up_s.trans (congrArg some ?_)
      show oHa x = oHa (vf_upd (mha M) _ x i)
      rw [vu_s]
    · refine (up_n (by omega)).trans ((hha i hi).trans (congrArg some ?_))
      show oHa (mha M i) = oHa (vf_upd (mha M) _ x i)
      rw [vu_n e]

theorem RepC.sOr {cy : Nat → ClassId} {ad : Nat → Nat} {ct : Nat → Option va_E} {M : tM} (h : RepC cy ad ct M) (ho : okM M) {k : Nat} (hk : k < mO M) (x : tOr) (hx : oBod x = oBod (mod M k)) : RepC cy ad (up ct (64 + k) (oOr ad k x)) (sOr M k x) := by
  obtain ⟨h1, ⟨ha2, ha3, ha4, ha5, ha6⟩, hcl, hpe, hst, hsa, hpc, hha, hod, hbo⟩ := h
  obtain ⟨⟨hb1, hb2, hb3, hb4, hb5⟩, hk1, hk2, hk3, hk4, hk5⟩ := ho
  refine ⟨(up_n (by omega)).trans h1, ⟨(up_n (by omega)).trans ha2, (up_n (by omega)).trans ha3, (up_n (by omega)).trans ha4, (up_n (by omega)).trans ha5, (up_n (by omega)).trans ha6⟩, fun i hi => (up_n (by omega)).trans (hcl i hi), fun i hi => (up_n (by omega)).trans (hpe i hi), fun i hi => (up_n (by omega)).trans (hst i hi), fun i hi => (up_n (by omega)).trans (hsa i hi), fun i hi j hj => (up_n (by have h5 := (hk3 i hi).1; have h6 : j < (mst M i).1 := hj; omega)).trans (hpc i hi j hj), fun i hi => (up_n (by omega)).trans (hha i hi), fun i hi => ?_, fun i hi => ?_⟩
  · by_cases e : i = k
    · subst e
      refine up_s.trans (congrArg some ?_)
      show oOr ad i x = oOr ad i (vf_upd (mod M) _ x i)
      rw [vu_s]
    · refine (up_n (by omega)).trans ((hod i hi).trans (congrArg some ?_))
      show oOr ad i (mod M i) = oOr ad i (vf_upd (mod M) _ x i)
      rw [vu_n e]
  · by_cases e : i = k
    · subst e
      refine (up_n (by omega)).trans ((hbo i hi).trans (congrArg some ?_))
      show (Sum.inl (cy 0, 5, aD (oBod (mod M i))) : va_E) = Sum.inl (cy 0, 5, aD (oBod (vf_upd (mod M) _ x i)))
      rw [vu_s, ← hx]
    · refine (up_n (by omega)).trans ((hbo i hi).trans (congrArg some ?_))
      show (Sum.inl (cy 0, 5, aD (oBod (mod M i))) : va_E) = Sum.inl (cy 0, 5, aD (oBod (vf_upd (mod M) _ x i)))
      rw [vu_n e]

theorem RepC.sBo {cy : Nat → ClassId} {ad : Nat → Nat} {ct : Nat → Option va_E} {M : tM} (h : RepC cy ad ct M) (ho : okM M) {k : Nat} (hk : k < mO M) (x : tOr) (hx : oOr ad k x = oOr ad k (mod M k)) : RepC cy ad (up ct (72 + k) (.inl (cy 0, 5, aD (oBod x)))) (sOr M k x) := by
  obtain ⟨h1, ⟨ha2, ha3, ha4, ha5, ha6⟩, hcl, hpe, hst, hsa, hpc, hha, hod, hbo⟩ := h
  obtain ⟨⟨hb1, hb2, hb3, hb4, hb5⟩, hk1, hk2, hk3, hk4, hk5⟩ := ho
  refine ⟨(up_n (by omega)).trans h1, ⟨(up_n (by omega)).trans ha2, (up_n (by omega)).trans ha3, (up_n (by omega)).trans ha4, (up_n (by omega)).trans ha5, (up_n (by omega)).trans ha6⟩, fun i hi => (up_n (by omega)).trans (hcl i hi), fun i hi => (up_n (by omega)).trans (hpe i hi), fun i hi => (up_n (by omega)).trans (hst i hi), fun i hi => (up_n (by omega)).trans (hsa i hi), fun i hi j hj => (up_n (by have h5 := (hk3 i hi).1; have h6 : j < (mst M i).1 := hj; omega)).trans (hpc i hi j hj), fun i hi => (up_n (by omega)).trans (hha i hi), fun i hi => ?_, fun i hi => ?_⟩
  · by_cases e : i = k
    · subst e
      refine (up_n (by omega)).trans ((hod i hi).trans (congrArg some ?_))
      show oOr ad i (mod M i) = oOr ad i (vf_upd (mod M) _ x i)
      rw [vu_s, hx]
    · refine (up_n (by omega)).trans ((hod i hi).trans (congrArg some ?_))
      show oOr ad i (mod M i) = oOr ad i (vf_upd (mod M) _ x i)
      rw [vu_n e]
  · by_cases e : i = k
    · subst e
      refine up_s.trans (congrArg some ?_)
      show (Sum.inl (cy 0, 5, aD (oBod x)) : va_E) = Sum.inl (cy 0, 5, aD (oBod (vf_upd (mod M) _ x i)))
      rw [vu_s]
    · refine (up_n (by omega)).trans ((hbo i hi).trans (congrArg some ?_))
      show (Sum.inl (cy 0, 5, aD (oBod (mod M i))) : va_E) = Sum.inl (cy 0, 5, aD (oBod (vf_upd (mod M) _ x i)))
      rw [vu_n e]

theorem RepC.sSt {cy : Nat → ClassId} {ad : Nat → Nat} {ct : Nat → Option va_E} {M : tM} (h : RepC cy ad ct M) (ho : okM M) {k : Nat} (hk : k < mS M) (x : tSt) (hx : x.1 = (mst M k).1 ∧ x.2.1 = (mst M k).2.1) : RepC cy ad (up ct (32 + k) (oSt ad k x)) (sSt M k x) := by
  obtain ⟨h1, ⟨ha2, ha3, ha4, ha5, ha6⟩, hcl, hpe, hst, hsa, hpc, hha, hod, hbo⟩ := h
  obtain ⟨⟨hb1, hb2, hb3, hb4, hb5⟩, hk1, hk2, hk3, hk4, hk5⟩ := ho
  refine ⟨(up_n (by omega)).trans h1, ⟨(up_n (by omega)).trans ha2, (up_n (by omega)).trans ha3, (up_n (by omega)).trans ha4, (up_n (by omega)).trans ha5, (up_n (by omega)).trans ha6⟩, fun i hi => (up_n (by omega)).trans (hcl i hi), fun i hi => (up_n (by omega)).trans (hpe i hi), fun i hi => ?_, fun i hi => ?_, fun i hi j hj => ?_, fun i hi => (up_n (by omega)).trans (hha i hi), fun i hi => (up_n (by omega)).trans (hod i hi), fun i hi => (up_n (by omega)).trans (hbo i hi)⟩
  · by_cases e : i = k
    · subst e
      refine up_s.trans (congrArg some ?_)
      show oSt ad i x = oSt ad i (vf_upd (mst M) _ x i)
      rw [vu_s]
    · refine (up_n (by omega)).trans ((hst i hi).trans (congrArg some ?_))
      show oSt ad i (mst M i) = oSt ad i (vf_upd (mst M) _ x i)
      rw [vu_n e]
  · by_cases e : i = k
    · subst e
      refine (up_n (by omega)).trans ((hsa i hi).trans (congrArg some ?_))
      show (Sum.inl (cy 9, 5, aQ (kqs ad (40 + 5 * i) (mst M i).1)) : va_E) = Sum.inl (cy 9, 5, aQ (kqs ad (40 + 5 * i) (vf_upd (mst M) _ x i).1))
      rw [vu_s, hx.1]
    · refine (up_n (by omega)).trans ((hsa i hi).trans (congrArg some ?_))
      show (Sum.inl (cy 9, 5, aQ (kqs ad (40 + 5 * i) (mst M i).1)) : va_E) = Sum.inl (cy 9, 5, aQ (kqs ad (40 + 5 * i) (vf_upd (mst M) _ x i).1))
      rw [vu_n e]
  · by_cases e : i = k
    · subst e
      have e2 : (mst (sSt M i x) i) = x := vu_s
      rw [e2] at hj ⊢
      have h5 := (hk3 i hk).1
      rw [hx.1] at hj
      refine (up_n (by omega)).trans ((hpc i hi j hj).trans ?_)
      rw [hx.2]
    · have e2 : (mst (sSt M k x) i) = mst M i := vu_n e
      rw [e2] at hj ⊢
      have h5 := (hk3 i hi).1
      exact (up_n (by omega)).trans (hpc i hi j hj)
