/-! what the shop's world gives -/
theorem RepC.out {cy : Nat → ClassId} {ad : Nat → Nat} {ct ct' : Nat → Option va_E} {m : tM} (h : RepC cy ad ct m) (ho : okM m) (hk : kOut ct ct') : RepC cy ad ct' m := by
  obtain ⟨h1, ⟨ha2, ha3, ha4, ha5, ha6⟩, hcl, hpe, hst, hsa, hpc, hha, hod, hbo⟩ := h
  obtain ⟨⟨hb1, hb2, hb3, hb4, hb5⟩, hk1, hk2, hk3, hk4, hk5⟩ := ho
  refine ⟨(hk 1 (by omega)).trans h1, ⟨(hk 2 (by omega)).trans ha2, (hk 3 (by omega)).trans ha3, (hk 4 (by omega)).trans ha4, (hk 5 (by omega)).trans ha5, (hk 6 (by omega)).trans ha6⟩, fun i hi => (hk _ (by omega)).trans (hcl i hi), fun i hi => (hk _ (by omega)).trans (hpe i hi), fun i hi => (hk _ (by omega)).trans (hst i hi), fun i hi => (hk _ (by omega)).trans (hsa i hi), fun i hi j hj => (hk _ (by omega)).trans (hpc i hi j hj), fun i hi => (hk _ (by omega)).trans (hha i hi), fun i hi => (hk _ (by omega)).trans (hod i hi), fun i hi => (hk _ (by omega)).trans (hbo i hi)⟩
/-- what an order gives: itself, its bodies, its style, the style's pieces, the wearer -/
theorem RepC.ord {cy : Nat → ClassId} {ad : Nat → Nat} {ct : Nat → Option va_E} {m : tM} (h : RepC cy ad ct m) (ho : okM m) {i : Nat} (hi : i < mO m) :
    ct (64 + i) = some (oOr ad i (mod m i)) ∧ ct (72 + i) = some (.inl (cy 0, 5, aD (oBod (mod m i)))) ∧ ct (32 + oS (mod m i)) = some (oSt ad (oS (mod m i)) (mst m (oS (mod m i)))) ∧ ct (36 + oS (mod m i)) = some (.inl (cy 9, 5, aQ (kqs ad (40 + 5 * oS (mod m i)) (mst m (oS (mod m i))).1))) ∧ (∀ j, j < (mst m (oS (mod m i))).1 → ct (40 + 5 * oS (mod m i) + j) = some (oPc ((mst m (oS (mod m i))).2.1 j))) ∧ ct (24 + oP (mod m i)) = some (oPer (nI (oP (mod m i))) (mpe m (oP (mod m i)))) ∧ okMs (mpe m (oP (mod m i))) ∧ (mst m (oS (mod m i))).1 ≤ 5 ∧ (∀ j, j < (mst m (oS (mod m i))).1 → okPc ((mst m (oS (mod m i))).2.1 j)) ∧ 0 < (mst m (oS (mod m i))).1 ∧ oState (mod m i) ≤ 5 := by
  obtain ⟨h1, -, hcl, hpe, hst, hsa, hpc, hha, hod, hbo⟩ := h
  obtain ⟨-, hk1, hk2, hk3, hk4, hk5⟩ := ho
  obtain ⟨q1, q2, q3, q4⟩ := hk5 i hi
  exact ⟨hod i hi, hbo i hi, hst _ q2, hsa _ q2, hpc _ q2, hpe _ q1, hk2 _ q1, (hk3 _ q2).1, (hk3 _ q2).2.2, q3, q4⟩
theorem fCnt_le (ps : Nat → tPc) {a b : Nat} (h : a ≤ b) : fCnt ps a ≤ fCnt ps b := by
  induction b with
  | zero => rw [Nat.le_zero.mp h]; exact Nat.le_refl _
  | succ b ih =>
    rcases Nat.lt_or_ge a (b + 1) with q | q
    · have := ih (by omega)
      show _ ≤ fCnt ps b + _
      omega
    · rw [show a = b + 1 by omega]
      exact Nat.le_refl _
theorem fCnt_20 {ps : Nat → tPc} {n : Nat} (hn : n ≤ 5) (h : ∀ j, j < n → okPc (ps j)) : fCnt ps n ≤ 20 := by
  have key : ∀ k, k ≤ n → fCnt ps k ≤ 4 * k := by
    intro k
    induction k with
    | zero => intro _; exact Nat.le_refl _
    | succ k ih =>
      intro hk
      have a := ih (by omega)
      have b := (h k (by omega)).2.2.2.2
      show fCnt ps k + (ps k).2.2.2 ≤ _
      omega
  have := key n (Nat.le_refl _)
  omega
theorem gOne_n (w t : UInt64) : ∀ (k : Nat) (g : tGs), (gOne w t k g).1 = g.1 + k
  | 0, g => rfl
  | k + 1, g => by
    show (gOne w t k _).1 = _
    rw [gOne_n w t k]
    show g.1 + 1 + k = _
    omega
theorem fRaise_pos {sp : Nat} {h : UInt64} (q : 0 < sp) : FP.dmul (fNext (FP.ddiv h (FP.i2d (nI sp)))) (FP.i2d (nI sp)) = fRaise sp h := (if_pos q).symm
theorem fRaise_zero {sp : Nat} {h : UInt64} (q : ¬ 0 < sp) : h = fRaise sp h := (if_neg q).symm
theorem fNew_some {wd : UInt64} {sp : Nat} {st : tLs} {room height : UInt64} (h : ¬ FP.dcmp room wd = some .gt) : fNew wd sp st room height = some (st.1 + 1, st.2.1, FP.dadd st.2.2.1 (fRaise sp height), vf_upd st.2.2.2.1 st.1 (fRaise sp height), vf_upd st.2.2.2.2 st.1 (FP.dsub wd room)) := if_neg h
theorem fNew_none {wd : UInt64} {sp : Nat} {st : tLs} {room height : UInt64} (h : FP.dcmp room wd = some .gt) : fNew wd sp st room height = none := if_pos h
theorem nI_le0 {n : Nat} (h : nI n ≤ 0) (hn : n < 2 ^ 31) : ¬ 0 < n := fun q => nI_nle q hn h
theorem nI_gt0 {n : Nat} (h : ¬ nI n ≤ 0) : 0 < n := by
  rcases Nat.eq_zero_or_pos n with q | q
  · subst q
    exact absurd (by decide) h
  · exact q
/-- fPut by what its four tries give -/
theorem fPut_1 {wd : UInt64} {sp : Nat} {b : Bool} {st s : tLs} {w t : UInt64} (h : fInto st w t = some s) : fPut wd sp b st w t = some s := by
  unfold fPut; rw [h]
theorem fPut_2 {wd : UInt64} {sp : Nat} {st s : tLs} {w t : UInt64} (h : fInto st w t = none) (h2 : fInto st t w = some s) : fPut wd sp true st w t = some (fTurn s) := by
  unfold fPut; rw [h, h2]; rfl
theorem fPut_3 {wd : UInt64} {sp : Nat} {st : tLs} {w t : UInt64} (h : fInto st w t = none) (h2 : fInto st t w = none) : fPut wd sp true st w t = fPutN wd sp true st w t := by
  unfold fPut; rw [h, h2]; rfl
theorem fPut_4 {wd : UInt64} {sp : Nat} {st : tLs} {w t : UInt64} (h : fInto st w t = none) : fPut wd sp false st w t = fPutN wd sp false st w t := by
  unfold fPut; rw [h]; rfl
theorem fPutN_1 {wd : UInt64} {sp : Nat} {b : Bool} {st s : tLs} {w t : UInt64} (h : fNew wd sp st w t = some s) : fPutN wd sp b st w t = some s := by
  unfold fPutN; rw [h]
theorem fPutN_2 {wd : UInt64} {sp : Nat} {st s : tLs} {w t : UInt64} (h : fNew wd sp st w t = none) (h2 : fNew wd sp st t w = some s) : fPutN wd sp true st w t = some (fTurn s) := by
  unfold fPutN; rw [h, h2]; rfl
theorem fPutN_3 {wd : UInt64} {sp : Nat} {st : tLs} {w t : UInt64} (h : fNew wd sp st w t = none) (h2 : fNew wd sp st t w = none) : fPutN wd sp true st w t = none := by
  unfold fPutN; rw [h, h2]; rfl
theorem fPutN_4 {wd : UInt64} {sp : Nat} {st : tLs} {w t : UInt64} (h : fNew wd sp st w t = none) : fPutN wd sp false st w t = none := by
  unfold fPutN; rw [h]; rfl
/-- what the spread of a gathered table answers -/
def kSpr (cy : Nat → ClassId) (ad : Nat → Nat) (ct : Nat → Option va_E) (wd : UInt64) (sp : Nat) (g : tGs) (o : Option (UInt64 × tLs)) (v : Option Value) : Prop :=
  (∃ r, o = some r ∧ v = some (.int 1) ∧ RepL cy ad ct g.1 r.1 wd sp g.2.2 g.2.1 r.2) ∨ (o = none ∧ v = some (.int 0) ∧ ∃ (cov : UInt64) (s : tLs), RepL cy ad ct g.1 cov wd sp g.2.2 g.2.1 s)
theorem fLay_go {wd : UInt64} {sp : Nat} {b : Bool} {fw fl : Nat → UInt64} {d i : Nat} {cov : UInt64} {s s' : tLs} (h : fPut wd sp b s (fw i) (fl i) = some s') : fLay wd sp b fw fl (d + 1) i cov s = fLay wd sp b fw fl d (i + 1) (FP.dadd cov (FP.dmul (fw i) (fl i))) s' := by
  show (match fPut wd sp b s (fw i) (fl i) with | some s' => _ | none => _) = _
  rw [h]
theorem fLay_no {wd : UInt64} {sp : Nat} {b : Bool} {fw fl : Nat → UInt64} {d i : Nat} {cov : UInt64} {s : tLs} (h : fPut wd sp b s (fw i) (fl i) = none) : fLay wd sp b fw fl (d + 1) i cov s = none := by
  show (match fPut wd sp b s (fw i) (fl i) with | some s' => _ | none => _) = _
  rw [h]
theorem RepC.sub {cy : Nat → ClassId} {ad : Nat → Nat} {ct : Nat → Option va_E} {tb : tTb} {fl fw fh fr : Nat → UInt64} (hT : RepT cy ad ct tb fl fw fh fr) : RepT cy ad ct tb fl fw fh fr := hT
theorem gOrd_n (ms : Nat → Nat) (left : UInt64) (ps : Nat → tPc) : ∀ (d i : Nat) (g : tGs), (gOrd ms left ps d i g).1 + fCnt ps i = g.1 + fCnt ps (i + d)
  | 0, i, g => rfl
  | d + 1, i, g => by
    have h := gOrd_n ms left ps d (i + 1) (gOne (fWide ms left (ps i)) (fLong ms left (ps i)) (ps i).2.2.2 g)
    rw [gOne_n] at h
    show (gOrd ms left ps d (i + 1) _).1 + _ = _
    have e : fCnt ps (i + 1) = fCnt ps i + (ps i).2.2.2 := rfl
    rw [show i + 1 + d = i + (d + 1) by omega] at h
    omega
theorem gOrd_n0 (ms : Nat → Nat) (left : UInt64) (ps : Nat → tPc) (n : Nat) (g : tGs) : (gOrd ms left ps n 0 g).1 = g.1 + fCnt ps n := by
  have h := gOrd_n ms left ps n 0 g
  rw [Nat.zero_add] at h
  exact h
