/-! the two sides of the law's world -/
section GLUE
/-- the class's side -/
def lC (cy : Nat → ClassId) (ad : Nat → Nat) (ct : Nat → Option va_E) (M : tM) : Prop := RepC cy ad ct M ∧ FreeC ct M ∧ ∃ (tb : tTb) (fl fw fh fr : Nat → UInt64), RepT cy ad ct tb fl fw fh fr
/-- the reference's side -/
def lR (cy : Nat → ClassId) (ad : Nat → Nat) (ct : Nat → Option va_E) (M : tM) : Prop := (∃ (th : Int32) (sm : Int64), ct 100 = some (oMod ad M th sm)) ∧ RepL0 cy ad ct M ∧ FreeR ct M ∧ ∀ j, 198 ≤ j → ct j = none
theorem FreeC.kp2 {ct ct1 : Nat → Option va_E} {M : tM} (h : FreeC ct M) (ho : okM M) (hx : ∀ j, j < 80 → ct1 j = ct j) : FreeC ct1 M := by
  obtain ⟨h1, h2, h3, h4, h5, h6⟩ := h
  exact ⟨fun i a b => (hx _ (by omega)).trans (h1 i a b), fun i a b => (hx _ (by omega)).trans (h2 i a b), fun i a b => ⟨(hx _ (by omega)).trans (h3 i a b).1, (hx _ (by omega)).trans (h3 i a b).2⟩, fun i a j b c => (hx _ (by omega)).trans (h4 i a j b c), fun i a b => (hx _ (by omega)).trans (h5 i a b), fun i a b => ⟨(hx _ (by omega)).trans (h6 i a b).1, (hx _ (by omega)).trans (h6 i a b).2⟩⟩
theorem RepT.mv {cy : Nat → ClassId} {ad ad1 : Nat → Nat} {ct ct1 : Nat → Option va_E} {tb : tTb} {fl fw fh fr : Nat → UInt64} (h : RepT cy ad ct tb fl fw fh fr) (hx : ∀ j, j < 80 → ad1 j = ad j ∧ ct1 j = ct j) : RepT cy ad1 ct1 tb fl fw fh fr := by
  obtain ⟨h7, h8, h9, h10, h11⟩ := h
  refine ⟨(hx 7 (by omega)).2.trans (h7.trans (congrArg some ?_)), (hx 8 (by omega)).2.trans h8, (hx 9 (by omega)).2.trans h9, (hx 10 (by omega)).2.trans h10, (hx 11 (by omega)).2.trans h11⟩
  unfold oTab
  rw [(hx 8 (by omega)).1, (hx 9 (by omega)).1, (hx 10 (by omega)).1, (hx 11 (by omega)).1]
theorem lC.mv {cy : Nat → ClassId} {ad ad1 : Nat → Nat} {ct ct1 : Nat → Option va_E} {M : tM} (h : lC cy ad ct M) (ho : okM M) (hx : ∀ j, j < 80 → ad1 j = ad j ∧ ct1 j = ct j) : lC cy ad1 ct1 M := by
  obtain ⟨h1, h2, tb, fl, fw, fh, fr, h3⟩ := h
  exact ⟨h1.mv ho (fun j hj _ => hx j hj) (hx 7 (by omega)).1, h2.kp2 ho (fun j hj => (hx j hj).2), tb, fl, fw, fh, fr, h3.mv hx⟩
theorem RepL0.mvx {cy : Nat → ClassId} {ad ad1 : Nat → Nat} {ct ct1 : Nat → Option va_E} {M : tM} (h : RepL0 cy ad ct M) (ho : okM M) (hx : ∀ j, (j = 0 ∨ 101 ≤ j) → ad1 j = ad j ∧ ct1 j = ct j) : RepL0 cy ad1 ct1 M := by
  obtain ⟨⟨a1, a2, a3, a4⟩, ⟨b1, b2⟩, c1, c2, c3, c4, c5, c6, c7⟩ := h
  obtain ⟨⟨hb1, hb2, hb3, hb4, hb5⟩, -, -, hk3, -, hk5⟩ := ho
  have g : ∀ j, 101 ≤ j → ad1 j = ad j ∧ ct1 j = ct j := fun j a => hx j (Or.inr a)
  have g0 := hx 0 (Or.inl rfl)
  have lk : ∀ {kl kd base n : Nat}, 101 ≤ kl → 101 ≤ kd → 101 ≤ base → rLst cy ad ct kl kd base n → rLst cy ad1 ct1 kl kd base n := fun a c e h => h.mvg g0.1 (g _ c).1 (g _ a).2 (g _ c).2 (fun i hi => (g _ (by omega)).1)
  refine ⟨⟨lk (by omega) (by omega) (by omega) a1, lk (by omega) (by omega) (by omega) a2, lk (by omega) (by omega) (by omega) a3, lk (by omega) (by omega) (by omega) a4⟩, ⟨(g _ (by omega)).2.trans b1, (g _ (by omega)).2.trans b2⟩, fun i hi => (g _ (by omega)).2.trans (c1 i hi), fun i hi => (g _ (by omega)).2.trans (c2 i hi), fun i hi => lk (by omega) (by omega) (by omega) (c3 i hi), fun i hi j hj => (g _ (by omega)).2.trans (c4 i hi j hj), fun i hi => ?_, fun i hi => ⟨fun z => (g _ (by omega)).2.trans ((c6 i hi).1 z), fun z => (g _ (by omega)).2.trans ((c6 i hi).2 z)⟩, g0.2.trans c7⟩
  refine (g _ (by omega)).2.trans ((c5 i hi).trans (congrArg some ?_))
  have e : ad1 (if oState (mod M i) = 0 then 180 + i else 190 + i) = ad (if oState (mod M i) = 0 then 180 + i else 190 + i) := (g _ (by split <;> omega)).1
  unfold rOr
  rw [e]
theorem FreeR.mvx {ct ct1 : Nat → Option va_E} {M : tM} (h : FreeR ct M) (hx : ∀ j, 101 ≤ j → ct1 j = ct j) : FreeR ct1 M := by
  obtain ⟨h1, h2, h3, h4, h5, h6, h7⟩ := h
  exact ⟨fun i a b => (hx _ (by omega)).trans (h1 i a b), fun i a b => (hx _ (by omega)).trans (h2 i a b), fun i a b => ⟨(hx _ (by omega)).trans (h3 i a b).1, (hx _ (by omega)).trans (h3 i a b).2⟩, fun i a j b c => (hx _ (by omega)).trans (h4 i a j b c), fun i a b => ⟨(hx _ (by omega)).trans (h5 i a b).1, (hx _ (by omega)).trans (h5 i a b).2⟩, fun i a b => (hx _ (by omega)).trans (h6 i a b), fun j a => (hx _ (by omega)).trans (h7 j a)⟩
theorem oMod_mvx {ad ad1 : Nat → Nat} {M : tM} {th : Int32} {sm : Int64} (hx : ∀ j, 101 ≤ j → ad1 j = ad j) : oMod ad1 M th sm = oMod ad M th sm := by
  unfold oMod
  rw [hx 101 (by omega), hx 102 (by omega), hx 103 (by omega), hx 104 (by omega), hx 105 (by omega), hx 106 (by omega)]
theorem lR.mv {cy : Nat → ClassId} {ad ad1 : Nat → Nat} {ct ct1 : Nat → Option va_E} {M : tM} (h : lR cy ad ct M) (ho : okM M) (hx : ∀ j, (j = 0 ∨ 100 ≤ j) → ad1 j = ad j ∧ ct1 j = ct j) : lR cy ad1 ct1 M := by
  obtain ⟨⟨th, sm, h1⟩, h2, h3, h4⟩ := h
  refine ⟨⟨th, sm, (hx 100 (Or.inr (Nat.le_refl _))).2.trans (h1.trans (congrArg some ?_))⟩, h2.mvx ho (fun j hj => hx j (by omega)), h3.mvx (fun j hj => (hx j (by omega)).2), fun j hj => (hx j (by omega)).2.trans (h4 j hj)⟩
  exact (oMod_mvx (fun j hj => (hx j (by omega)).1)).symm
/-- what it answers is told, the sum is another -/
theorem lR.th {cy : Nat → ClassId} {ad : Nat → Nat} {ct ct1 : Nat → Option va_E} {M : tM} (h : lR cy ad ct M) {th : Int32} {sm : Int64} (h1 : ct1 100 = some (oMod ad M th sm)) (hk : ∀ k, k ≠ 100 → ct1 k = ct k) : lR cy ad ct1 M := by
  obtain ⟨-, h2, h3, h4⟩ := h
  exact ⟨⟨th, sm, h1⟩, h2.up hk, h3.mvx (fun j hj => hk j (by omega)), fun j hj => (hk j (by omega)).trans (h4 j hj)⟩
theorem lR.hfr {cy : Nat → ClassId} {ad : Nat → Nat} {ct : Nat → Option va_E} {M : tM} (h : lR cy ad ct M) : ∀ j, 200 ≤ j → ct j = none := fun j hj => h.2.2.2 j (by omega)
/-- only the table is another -/
theorem lC.out {cy : Nat → ClassId} {ad : Nat → Nat} {ct ct1 : Nat → Option va_E} {M : tM} (h : lC cy ad ct M) (ho : okM M) (hk : kOut ct ct1) (hT : ∃ (tb : tTb) (fl fw fh fr : Nat → UInt64), RepT cy ad ct1 tb fl fw fh fr) : lC cy ad ct1 M := by
  obtain ⟨h1, h2, -⟩ := h
  refine ⟨h1.out ho hk, ?_, hT⟩
  obtain ⟨a1, a2, a3, a4, a5, a6⟩ := h2
  exact ⟨fun i a b => (hk _ (by omega)).trans (a1 i a b), fun i a b => (hk _ (by omega)).trans (a2 i a b), fun i a b => ⟨(hk _ (by omega)).trans (a3 i a b).1, (hk _ (by omega)).trans (a3 i a b).2⟩, fun i a j b c => (hk _ (by omega)).trans (a4 i a j b c), fun i a b => (hk _ (by omega)).trans (a5 i a b), fun i a b => ⟨(hk _ (by omega)).trans (a6 i a b).1, (hk _ (by omega)).trans (a6 i a b).2⟩⟩
theorem nI_inj {a b : Nat} (h : nI a = nI b) (ha : a < 2 ^ 31) (hb : b < 2 ^ 31) : a = b := (nI_eq ha hb).mp h
theorem okN.mono {nb nb' : Nat} {M : tM} (h : okN nb M) (hb : nb ≤ nb') : okN nb' M := by
  obtain ⟨h1, h2, h3, h4⟩ := h
  exact ⟨h1, h2, fun i hi => (h3 i hi).wk (Nat.le_refl _) (by omega), fun i hi => ⟨(h4 i hi).1.elim Or.inl (fun z => Or.inr (z.wk (Nat.le_refl _) (by omega))), (h4 i hi).2⟩⟩
/-- what else holds for good -/
def okX (M : tM) : Prop :=
  (mShut M = 0 ∨ mShut M = 1) ∧
  (∀ i, i < mO M → (oState (mod M i) = 0 → oBod (mod M i) = fun _ => 0) ∧ (oState (mod M i) ≠ 0 → ∃ jc, jc < mC M ∧ oCloth (mod M i) = nI jc ∧ oCost (mod M i) = fCost (mcl M jc).2.2.2.2.2 (oNeeds (mod M i)) ∧ dP 0 675200 (oNeeds (mod M i)))) ∧
  (∀ i, i < mS M → ((mst M i).2.2 = 0 ↔ ∀ j, j < mO M → ¬ oS (mod M j) = i))
/-- between two calls -/
def lI (cy : Nat → ClassId) (em : Nat) (nb : Nat) (M : tM) (ad : Nat → Nat) (ct : Nat → Option va_E) : Prop :=
  lC cy ad ct M ∧ lR cy ad ct M ∧ okM M ∧ okN nb M ∧ okX M ∧ ad 0 = em ∧ (∃ fo : Nat → Int64, ct 90 = some (.inl (cy 3, 1, aL fo))) ∧ ∃ fd : Nat → UInt64, ct 91 = some (.inl (cy 0, 1, aD fd))
end GLUE
