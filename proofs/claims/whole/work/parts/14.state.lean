/-! what the objects of the class hold; the shop as numbers -/
/-- a piece: across, along, ease in quarters, count -/
abbrev tPc : Type := Nat × Nat × Nat × Nat
/-- a cloth: width, length, shrink in 64ths, stripe, nap, price -/
abbrev tCl : Type := UInt64 × UInt64 × Nat × Nat × Int32 × Nat
/-- a style: how many pieces, the pieces, whether one was ordered -/
abbrev tSt : Type := Nat × (Nat → tPc) × Int32
/-- a hand: pace in eighths, free -/
abbrev tHa : Type := Nat × UInt64
/-- an order: person, style, due, state, cloth, cost, hand, ready, fitting, needs, bodies -/
abbrev tOr : Type := Nat × Nat × Int32 × Nat × Int32 × Int32 × Int32 × UInt64 × Int32 × UInt64 × (Nat → UInt64)
/-- how many cloths, people, styles, hands, orders -/
abbrev tNs : Type := Nat × Nat × Nat × Nat × Nat
/-- clock, purse, refused, shut -/
abbrev tSh : Type := UInt64 × Int32 × Int32 × Int32
abbrev tM : Type := tNs × tSh × (Nat → tCl) × (Nat → Nat → Nat) × (Nat → tSt) × (Nat → tHa) × (Nat → tOr)
abbrev mC (m : tM) : Nat := m.1.1
abbrev mP (m : tM) : Nat := m.1.2.1
abbrev mS (m : tM) : Nat := m.1.2.2.1
abbrev mH (m : tM) : Nat := m.1.2.2.2.1
abbrev mO (m : tM) : Nat := m.1.2.2.2.2
abbrev mClk (m : tM) : UInt64 := m.2.1.1
abbrev mPur (m : tM) : Int32 := m.2.1.2.1
abbrev mRef (m : tM) : Int32 := m.2.1.2.2.1
abbrev mShut (m : tM) : Int32 := m.2.1.2.2.2
abbrev mcl (m : tM) : Nat → tCl := m.2.2.1
abbrev mpe (m : tM) : Nat → Nat → Nat := m.2.2.2.1
abbrev mst (m : tM) : Nat → tSt := m.2.2.2.2.1
abbrev mha (m : tM) : Nat → tHa := m.2.2.2.2.2.1
abbrev mod (m : tM) : Nat → tOr := m.2.2.2.2.2.2
abbrev oP (o : tOr) : Nat := o.1
abbrev oS (o : tOr) : Nat := o.2.1
abbrev oDue (o : tOr) : Int32 := o.2.2.1
abbrev oState (o : tOr) : Nat := o.2.2.2.1
abbrev oCloth (o : tOr) : Int32 := o.2.2.2.2.1
abbrev oCost (o : tOr) : Int32 := o.2.2.2.2.2.1
abbrev oHand (o : tOr) : Int32 := o.2.2.2.2.2.2.1
abbrev oReady (o : tOr) : UInt64 := o.2.2.2.2.2.2.2.1
abbrev oFit (o : tOr) : Int32 := o.2.2.2.2.2.2.2.2.1
abbrev oNeeds (o : tOr) : UInt64 := o.2.2.2.2.2.2.2.2.2.1
abbrev oBod (o : tOr) : Nat → UInt64 := o.2.2.2.2.2.2.2.2.2.2
abbrev cD0 : UInt64 := 0
abbrev cD1 : UInt64 := 4607182418800017408
abbrev cD2 : UInt64 := 4611686018427387904
abbrev cD3 : UInt64 := 4613937818241073152
abbrev cD4 : UInt64 := 4616189618054758400
abbrev cD8 : UInt64 := 4620693217682128896
abbrev cD64 : UInt64 := 4634204016564240384
abbrev cD100 : UInt64 := 4636737291354636288
abbrev cD2000 : UInt64 := 4656510908468559872
abbrev cHalf : UInt64 := 4602678819172646912
abbrev cQuart : UInt64 := 4598175219545276416
/-- how many parts the first n pieces have -/
def fCnt (ps : Nat → tPc) : Nat → Nat
  | 0 => 0
  | n + 1 => fCnt ps n + (ps n).2.2.2
def fPart (ms : Nat → Nat) (part : Nat) : UInt64 := FP.ddiv (FP.i2d (nI (ms (part / 10) * (part % 10)))) cD8
def fEase (q : Nat) : UInt64 := FP.ddiv (FP.i2d (nI q)) cD4
def fBody (ms : Nat → Nat) (pc : tPc) : UInt64 := FP.dadd (fPart ms pc.1) (fEase pc.2.2.1)
def fTall (ms : Nat → Nat) (pc : tPc) : UInt64 := fPart ms pc.2.1
def fShr (k : Nat) : UInt32 := FP.fdiv (FP.i2f (nI k)) 1115684864
def fLeft (k : Nat) : UInt64 := FP.dsub cD1 (FP.f2d (fShr k))
def fPace (k : Nat) : UInt32 := FP.fdiv (FP.i2f (nI k)) 1090519040
/-- as ceil does, by longs -/
def fNext (x : UInt64) : UInt64 := if FP.dcmp (FP.l2d (FP.d2l x)) x = some .lt then FP.l2d (FP.d2l x + 1) else FP.l2d (FP.d2l x)
def okPart (p : Nat) : Prop := p < 40 ∧ 1 ≤ p % 10 ∧ p % 10 ≤ 8
def okPc (pc : tPc) : Prop := okPart pc.1 ∧ okPart pc.2.1 ∧ pc.2.2.1 ≤ 40 ∧ 1 ≤ pc.2.2.2 ∧ pc.2.2.2 ≤ 4
def okMs (ms : Nat → Nat) : Prop := ∀ j, 50 ≤ ms j ∧ ms j ≤ 200
/-! the objects -/
abbrev oPer (num : Int32) (ms : Nat → Nat) : va_E := .inr (5, [.int num, .int (nI (ms 0)), .int (nI (ms 1)), .int (nI (ms 2)), .int (nI (ms 3))])
abbrev oPc (pc : tPc) : va_E := .inr (6, [.int (nI pc.1), .int (nI pc.2.1), .double (fEase pc.2.2.1), .int (nI pc.2.2.2)])
abbrev oCl (c : tCl) : va_E := .inr (2, [.int (nI c.2.2.2.1), .int c.2.2.2.2.1, .int (nI c.2.2.2.2.2), .double c.1, .double c.2.1, .float (fShr c.2.2.1)])
abbrev oHa (h : tHa) : va_E := .inr (3, [.float (fPace h.1), .double h.2])
abbrev oSt (ad : Nat → Nat) (i : Nat) (s : tSt) : va_E := .inr (7, [.int (nI i), .ref (ad (36 + i)), .int (nI s.1), .int (nI (fCnt s.2.1 s.1)), .int s.2.2])
abbrev oOr (ad : Nat → Nat) (i : Nat) (o : tOr) : va_E := .inr (4, [.ref (ad (24 + oP o)), .ref (ad (32 + oS o)), .int (oDue o), .ref (ad (72 + i)), .int (nI (oState o)), .int (oCloth o), .int (oCost o), .int (oHand o), .double (oReady o), .int (oFit o)])
abbrev oShop (ad : Nat → Nat) (m : tM) : va_E := .inr (9, [.ref (ad 2), .ref (ad 3), .ref (ad 4), .ref (ad 5), .ref (ad 6), .ref (ad 7), .int (nI (mC m)), .int (nI (mP m)), .int (nI (mS m)), .int (nI (mH m)), .int (nI (mO m)), .double (mClk m), .int (mPur m), .int (mRef m), .int (mShut m)])
/-- the table: laid, rows, turned, needs, covered, width, stripe -/
abbrev tTb : Type := Nat × Nat × Nat × UInt64 × UInt64 × UInt64 × Nat
abbrev oTab (ad : Nat → Nat) (t : tTb) : va_E := .inr (8, [.ref (ad 8), .ref (ad 9), .ref (ad 10), .ref (ad 11), .int (nI t.1), .int (nI t.2.1), .int (nI t.2.2.1), .double t.2.2.2.1, .double t.2.2.2.2.1, .double t.2.2.2.2.2.1, .int (nI t.2.2.2.2.2.2)])
/-- references by places: the first n of them -/
abbrev kqs (ad : Nat → Nat) (base n : Nat) : Nat → Option Nat := fun i => if i < n then some (ad (base + i)) else none
theorem kqs_at {ad : Nat → Nat} {base n j : Nat} (h : j < n) : va_rf (kqs ad base n j) = .ref (ad (base + j)) := by
  show va_rf (if j < n then _ else _) = _
  rw [if_pos h]
  rfl
/-- the world's part of the shop, the table apart -/
def RepC (cy : Nat → ClassId) (ad : Nat → Nat) (ct : Nat → Option va_E) (m : tM) : Prop :=
  ct 1 = some (oShop ad m) ∧
  (ct 2 = some (.inl (cy 4, 4, aQ (kqs ad 16 (mC m)))) ∧ ct 3 = some (.inl (cy 5, 6, aQ (kqs ad 24 (mP m)))) ∧ ct 4 = some (.inl (cy 6, 3, aQ (kqs ad 32 (mS m)))) ∧ ct 5 = some (.inl (cy 7, 3, aQ (kqs ad 56 (mH m)))) ∧ ct 6 = some (.inl (cy 8, 8, aQ (kqs ad 64 (mO m))))) ∧
  (∀ i, i < mC m → ct (16 + i) = some (oCl (mcl m i))) ∧
  (∀ i, i < mP m → ct (24 + i) = some (oPer (nI i) (mpe m i))) ∧
  (∀ i, i < mS m → ct (32 + i) = some (oSt ad i (mst m i))) ∧
  (∀ i, i < mS m → ct (36 + i) = some (.inl (cy 9, 5, aQ (kqs ad (40 + 5 * i) (mst m i).1)))) ∧
  (∀ i, i < mS m → ∀ j, j < (mst m i).1 → ct (40 + 5 * i + j) = some (oPc ((mst m i).2.1 j))) ∧
  (∀ i, i < mH m → ct (56 + i) = some (oHa (mha m i))) ∧
  (∀ i, i < mO m → ct (64 + i) = some (oOr ad i (mod m i))) ∧
  (∀ i, i < mO m → ct (72 + i) = some (.inl (cy 0, 5, aD (oBod (mod m i)))))
/-- what isn't made yet -/
def FreeC (ct : Nat → Option va_E) (m : tM) : Prop :=
  (∀ i, mC m ≤ i → i < 4 → ct (16 + i) = none) ∧ (∀ i, mP m ≤ i → i < 6 → ct (24 + i) = none) ∧ (∀ i, mS m ≤ i → i < 3 → ct (32 + i) = none ∧ ct (36 + i) = none) ∧ (∀ i, i < 3 → ∀ j, (i < mS m → (mst m i).1 ≤ j) → j < 5 → ct (40 + 5 * i + j) = none) ∧ (∀ i, mH m ≤ i → i < 3 → ct (56 + i) = none) ∧ (∀ i, mO m ≤ i → i < 8 → ct (64 + i) = none ∧ ct (72 + i) = none)
/-- the table's five cells -/
def RepT (cy : Nat → ClassId) (ad : Nat → Nat) (ct : Nat → Option va_E) (t : tTb) (fl fw fh fr : Nat → UInt64) : Prop :=
  ct 7 = some (oTab ad t) ∧ ct 8 = some (.inl (cy 0, 40, aD fl)) ∧ ct 9 = some (.inl (cy 0, 40, aD fw)) ∧ ct 10 = some (.inl (cy 0, 40, aD fh)) ∧ ct 11 = some (.inl (cy 0, 40, aD fr))
/-- bounds that hold for good -/
def okM (m : tM) : Prop :=
  (mC m ≤ 4 ∧ mP m ≤ 6 ∧ mS m ≤ 3 ∧ mH m ≤ 3 ∧ mO m ≤ 8) ∧
  (∀ i, i < mC m → (mcl m i).2.2.1 ≤ 8 ∧ (mcl m i).2.2.2.1 ≤ 20 ∧ ((mcl m i).2.2.2.2.1 = 0 ∨ (mcl m i).2.2.2.2.1 = 1) ∧ 1 ≤ (mcl m i).2.2.2.2.2 ∧ (mcl m i).2.2.2.2.2 ≤ 9) ∧
  (∀ i, i < mP m → okMs (mpe m i)) ∧
  (∀ i, i < mS m → (mst m i).1 ≤ 5 ∧ ((mst m i).2.2 = 0 ∨ (mst m i).2.2 = 1) ∧ ∀ j, j < (mst m i).1 → okPc ((mst m i).2.1 j)) ∧
  (∀ i, i < mH m → 1 ≤ (mha m i).1 ∧ (mha m i).1 ≤ 16) ∧
  (∀ i, i < mO m → oP (mod m i) < mP m ∧ oS (mod m i) < mS m ∧ 0 < (mst m (oS (mod m i))).1 ∧ oState (mod m i) ≤ 5)
/-! numbers: small facts -/
theorem fI_div10 {p : Nat} (h : p < 2 ^ 31) : nI p / 10 = nI (p / 10) := pk_div (d := 10) h (by decide) (by decide)
theorem fI_rem10 {p : Nat} (h : p < 2 ^ 31) : nI p - nI p / 10 * 10 = nI (p % 10) := pk_rem (d := 10) h (by decide) (by decide)
theorem fShr_tab : ∀ k : Fin 9, vf_n64 (FP.f2d (fShr k.val)) ∧ vf_n64 (FP.dsub cD1 (FP.f2d (fShr k.val))) ∧ vf_n32 (FP.fdiv (FP.i2f (nI k.val)) 1115684864) := by
  unfold vf_n64 vf_n32
  decide +kernel
theorem fShr_no {k : Nat} (h : k < 9) : vf_n64 (FP.f2d (fShr k)) := (fShr_tab ⟨k, h⟩).1
theorem fLeft_no {k : Nat} (h : k < 9) : vf_n64 (FP.dsub cD1 (FP.f2d (fShr k))) := (fShr_tab ⟨k, h⟩).2.1
theorem b2_eq {c : Prop} [Decidable c] : ((if c then (1 : Int32) else 0) = 0) ↔ ¬ c := by
  by_cases h : c
  · rw [if_pos h]; exact ⟨fun z => absurd z (by decide), fun z => absurd h z⟩
  · rw [if_neg h]; exact ⟨fun _ => h, fun _ => rfl⟩
/-- an int that is one of the first n places -/
def kIn (x : Int32) (n : Nat) : Prop := ∃ j : Nat, j < n ∧ x = nI j
theorem kIn_of {x : Int32} {n : Nat} (h0 : ¬ x < 0) (h1 : x < nI n) (hn : n < 2 ^ 31) : kIn x n := by
  obtain ⟨j, hj, rfl⟩ := nI_of h0
  exact ⟨j, (nI_ltI hj hn).mp h1, rfl⟩
theorem kIn_neg {x : Int32} {n : Nat} (h : x < 0) (hn : n < 2 ^ 31) : ¬ kIn x n := by
  rintro ⟨j, hj, rfl⟩
  exact nI_pos (by omega) h
theorem kIn_ge {x : Int32} {n : Nat} (h : ¬ x < nI n) (hn : n < 2 ^ 31) : ¬ kIn x n := by
  rintro ⟨j, hj, rfl⟩
  exact h (nI_lt hj hn)
theorem kIn_pos {x : Int32} {n : Nat} (h : kIn x n) (hn : n < 2 ^ 31) : ¬ x < 0 := fun z => kIn_neg z hn h
theorem kIn_lt {x : Int32} {n : Nat} (h : kIn x n) (hn : n < 2 ^ 31) : x < nI n := by
  obtain ⟨j, hj, rfl⟩ := h
  exact nI_lt hj hn
abbrev eIdx : String := "java/lang/IndexOutOfBoundsException"
abbrev eArg : String := "java/lang/IllegalArgumentException"
abbrev eSta : String := "java/lang/IllegalStateException"
