/-! the shop's numbers within bounds; lays of the shop -/
abbrev cM1 : UInt64 := 13830554455654793216
abbrev cM4 : UInt64 := 13839561654909534208
def okCl (c : tCl) : Prop := dP 3360 10240 c.1 ∧ dP 0 192000 c.2.1 ∧ (0 < c.2.2.1 → dP 3840 10240 c.1)
def okN (nb : Nat) (M : tM) : Prop :=
  (∀ i, i < mC M → okCl (mcl M i)) ∧ dP 0 128000 (mClk M) ∧ (∀ i, i < mH M → dP 0 (128000 + 5120 * nb) (mha M i).2) ∧
  (∀ i, i < mO M → (oReady (mod M i) = cM1 ∨ dP 0 (128000 + 5120 * nb) (oReady (mod M i))) ∧ (oState (mod M i) ≠ 0 → ∀ j, j < (mst M (oS (mod M i))).1 → dP 400 13440 (oBod (mod M i) j)))
theorem dW_wide {ms : Nat → Nat} {pc : tPc} {k : Nat} (h : okMs ms) (hp : okPc pc) (hk : k < 9) : (dW (fWide ms (fLeft k) pc) ∧ dW (fLong ms (fLeft k) pc)) ∧ okGath ms (fLeft k) pc := by
  have hl := dP_left hk
  have h1 : dP 592 13632 (FP.dadd (fBody ms pc) cD3) := (dP_add (dP_body h hp) dP_c3 (by omega)).wk (by omega) (by omega)
  have h2 : dP 592 12992 (FP.dadd (fTall ms pc) cD3) := (dP_add (dP_tall h hp) dP_c3 (by omega)).wk (by omega) (by omega)
  have w1 : dW (fWide ms (fLeft k) pc) := dP_div h1 hl (by omega) (by omega) (by omega) (by omega)
  have w2 : dW (fLong ms (fLeft k) pc) := dP_div h2 hl (by omega) (by omega) (by omega) (by omega)
  exact ⟨⟨w1, w2⟩, vf_of h1.nn, vf_of h2.nn, vf_of w1.nn, vf_of w2.nn⟩
abbrev mWd (M : tM) (jc : Nat) : UInt64 := (mcl M jc).1
abbrev mSp (M : tM) (jc : Nat) : Nat := (mcl M jc).2.2.2.1
abbrev mBt (M : tM) (jc : Nat) : Bool := decide ((mcl M jc).2.2.2.2.1 = 0)
abbrev gA (M : tM) (i jc : Nat) (g : tGs) : tGs := gOrd (mpe M (oP (mod M i))) (fLeft (mcl M jc).2.2.1) (mst M (oS (mod M i))).2.1 (mst M (oS (mod M i))).1 0 g
abbrev gZ : tGs := (0, fun _ => 0, fun _ => 0)
abbrev mCnt (M : tM) (i : Nat) : Nat := fCnt (mst M (oS (mod M i))).2.1 (mst M (oS (mod M i))).1
def fSp (M : tM) (jc : Nat) (g : tGs) : Option tAn := (fLay (mWd M jc) (mSp M jc) (mBt M jc) g.2.1 g.2.2 g.1 0 cD0 (0, 0, cD0, fun _ => 0, fun _ => 0)).map anL
def fSp1 (M : tM) (i jc : Nat) : Option tAn := fSp M jc (gA M i jc gZ)
def fSp2 (M : tM) (i i2 jc : Nat) : Option tAn := fSp M jc (gA M i2 jc (gA M i jc gZ))
abbrev dW2 (w t : UInt64) : Prop := dW w ∧ dW t
theorem gA_n (M : tM) (i jc : Nat) (g : tGs) : (gA M i jc g).1 = g.1 + mCnt M i := gOrd_n0 _ _ _ _ _
theorem mCnt_20 {M : tM} (ho : okM M) {i : Nat} (hi : i < mO M) : mCnt M i ≤ 20 := by
  obtain ⟨-, -, -, hk3, -, hk5⟩ := ho
  have q := (hk5 i hi).2.1
  exact fCnt_20 (hk3 _ q).1 (hk3 _ q).2.2
theorem mCnt_pos {M : tM} (ho : okM M) {i : Nat} (hi : i < mO M) : 0 < mCnt M i := by
  obtain ⟨-, -, -, hk3, -, hk5⟩ := ho
  have q := (hk5 i hi).2.1
  have q3 := (hk5 i hi).2.2.1
  have h1 := fCnt_le (mst M (oS (mod M i))).2.1 (show 1 ≤ (mst M (oS (mod M i))).1 from q3)
  have h2 := ((hk3 _ q).2.2 0 q3).2.2.2.1
  have h3 : fCnt (mst M (oS (mod M i))).2.1 1 = 0 + ((mst M (oS (mod M i))).2.1 0).2.2.2 := rfl
  show 0 < fCnt _ _
  omega
theorem ho_pc {M : tM} (ho : okM M) {i : Nat} (hi : i < mO M) : okMs (mpe M (oP (mod M i))) ∧ ∀ j, j < (mst M (oS (mod M i))).1 → okPc ((mst M (oS (mod M i))).2.1 j) := by
  obtain ⟨-, -, hk2, hk3, -, hk5⟩ := ho
  exact ⟨hk2 _ (hk5 i hi).1, (hk3 _ (hk5 i hi).2.1).2.2⟩
theorem gath_ok {M : tM} (ho : okM M) {i jc : Nat} (hi : i < mO M) (hc : jc < mC M) : ∀ j, j < (mst M (oS (mod M i))).1 → okGath (mpe M (oP (mod M i))) (fLeft (mcl M jc).2.2.1) ((mst M (oS (mod M i))).2.1 j) := by
  intro j hj
  have h8 := (ho.2.1 jc hc).1
  exact (dW_wide (ho_pc ho hi).1 ((ho_pc ho hi).2 j hj) (by omega)).2
theorem gA_all {M : tM} (ho : okM M) {i jc : Nat} (hi : i < mO M) (hc : jc < mC M) {g : tGs} (h : gAll dW2 g) : gAll dW2 (gA M i jc g) := by
  have h8 := (ho.2.1 jc hc).1
  exact (gOrd_all dW2 _ _ _ _ _ _).mpr ⟨h, fun j _ hj _ => (dW_wide (ho_pc ho hi).1 ((ho_pc ho hi).2 j (by omega)) (by omega)).1⟩
theorem okS_0 {wd : UInt64} {fh fr : Nat → UInt64} : okS wd 0 (0, 0, cD0, fh, fr) := ⟨Nat.le_refl _, dP_c0, fun r hr => absurd hr (Nat.not_lt_zero _)⟩
theorem spr_ok {M : tM} (ho : okM M) {nb jc : Nat} (hN : okN nb M) (hc : jc < mC M) {g : tGs} (h : gAll dW2 g) (hg : g.1 ≤ 40) (fh fr : Nat → UInt64) :
    okRun (mWd M jc) (mSp M jc) (mBt M jc) g.2.1 g.2.2 g.1 0 cD0 (0, 0, cD0, fh, fr) ∧ ∀ r, fLay (mWd M jc) (mSp M jc) (mBt M jc) g.2.1 g.2.2 g.1 0 cD0 (0, 0, cD0, fh, fr) = some r → okS (mWd M jc) (0 + g.1) r.2 ∧ dP 0 (3792757 * (0 + g.1)) r.1 ∧ ((0 < g.1 ∨ 0 < 0) → 0 < r.2.1) :=
  okRun_of (hN.1 jc hc).1 (ho.2.1 jc hc).2.1 g.1 0 cD0 _ (fun j _ hj => h j (by omega)) (by omega) okS_0 (dP_c0.wk (Nat.le_refl _) (Nat.zero_le _))
/-- the answers of a lay, bounded -/
theorem fSp_ok {M : tM} (ho : okM M) {nb jc : Nat} (hN : okN nb M) (hc : jc < mC M) {g : tGs} (h : gAll dW2 g) (hg : g.1 ≤ 40) (h0 : 0 < g.1) {r : tAn} (e : fSp M jc g = some r) :
    0 < r.2.1 ∧ r.2.1 ≤ g.1 ∧ dP (572 * r.2.1) (16880 * r.2.1) r.2.2.2 ∧ dP 0 (3792757 * g.1) r.1 := by
  unfold fSp at e
  cases e1 : fLay (mWd M jc) (mSp M jc) (mBt M jc) g.2.1 g.2.2 g.1 0 cD0 (0, 0, cD0, fun _ => 0, fun _ => 0) with
  | none => rw [e1] at e; cases e
  | some r0 =>
    rw [e1] at e
    cases e
    obtain ⟨a1, a2, a3⟩ := (spr_ok ho hN hc h hg _ _).2 _ e1
    rw [Nat.zero_add] at a1 a2
    exact ⟨a3 (Or.inl h0), a1.1, a1.2.1, a2⟩
theorem gAg.rf {g : tGs} : gAg g g := ⟨rfl, fun _ _ => ⟨rfl, rfl⟩⟩
theorem gAg_0 {fw fl : Nat → UInt64} : gAg (0, fw, fl) gZ := ⟨rfl, fun j hj => absurd hj (Nat.not_lt_zero _)⟩
theorem gA_ag {M : tM} {i jc : Nat} {g g' : tGs} (h : gAg g g') : gAg (gA M i jc g) (gA M i jc g') := gOrd_ag _ _ _ _ _ _ _ h
theorem spr_ag {M : tM} {jc : Nat} {g g' : tGs} (h : gAg g g') (fh fr : Nat → UInt64) : (fLay (mWd M jc) (mSp M jc) (mBt M jc) g.2.1 g.2.2 g.1 0 cD0 (0, 0, cD0, fh, fr)).map anL = fSp M jc g' := by
  unfold fSp
  rw [← h.1]
  exact fLay_ag g.1 0 cD0 _ _ (fun j _ hj => h.2 j (by omega)) ⟨rfl, rfl, rfl, fun j hj => absurd hj (Nat.not_lt_zero _)⟩
/-- what a spread answers, and the table behind it -/
def kAns (cy : Nat → ClassId) (ad : Nat → Nat) (ct : Nat → Option va_E) (wd : UInt64) (sp n : Nat) (o : Option tAn) (v : Option Value) : Prop :=
  (∃ (r : tAn) (fl fw fh fr : Nat → UInt64), o = some r ∧ v = some (.int 1) ∧ RepT cy ad ct (n, r.2.1, r.2.2.1, r.2.2.2, r.1, wd, sp) fl fw fh fr) ∨ (o = none ∧ v = some (.int 0) ∧ ∃ (tb : tTb) (fl fw fh fr : Nat → UInt64), RepT cy ad ct tb fl fw fh fr)
theorem spr_cl {cy : Nat → ClassId} {ad : Nat → Nat} {ct : Nat → Option va_E} {M : tM} {jc : Nat} {g g' : tGs} {b : Bool} {fh fr : Nat → UInt64} {v : Option Value} (hb : b = mBt M jc) (hg : gAg g g')
    (h : kSpr cy ad ct (mWd M jc) (mSp M jc) g (fLay (mWd M jc) (mSp M jc) b g.2.1 g.2.2 g.1 0 cD0 (0, 0, cD0, fh, fr)) v) : kAns cy ad ct (mWd M jc) (mSp M jc) g.1 (fSp M jc g') v := by
  subst hb
  rw [← spr_ag hg fh fr]
  rcases h with ⟨r, e, hv, hT⟩ | ⟨e, hv, cov, s, hT⟩
  · exact Or.inl ⟨anL r, _, _, _, _, by rw [e]; rfl, hv, hT⟩
  · exact Or.inr ⟨by rw [e]; rfl, hv, _, _, _, _, _, hT⟩
/-- where both lie, each lies -/
theorem fSp_fits {M : tM} (ho : okM M) {nb jc : Nat} (hN : okN nb M) (hc : jc < mC M) {g : tGs} (h : gAll dW2 g) (hg : g.1 ≤ 40) : (∃ r, fSp M jc g = some r) ↔ gAll (fFits (mWd M jc) (mBt M jc)) g := by
  have hf := fLay_fits (b := mBt M jc) (fw := g.2.1) (fl := g.2.2) (hN.1 jc hc).1 (ho.2.1 jc hc).2.1 g.1 0 cD0 (0, 0, cD0, fun _ => 0, fun _ => 0) (fun j _ hj => h j (by omega)) (by omega) okS_0
  unfold fSp
  constructor
  · rintro ⟨r, e⟩
    have := hf.mp (by
      cases e1 : fLay (mWd M jc) (mSp M jc) (mBt M jc) g.2.1 g.2.2 g.1 0 cD0 (0, 0, cD0, fun _ => 0, fun _ => 0) with
      | none => rw [e1] at e; cases e
      | some r0 => exact ⟨r0, rfl⟩)
    exact fun j hj => this j (Nat.zero_le _) (by omega)
  · intro z
    obtain ⟨r, e⟩ := hf.mpr (fun j _ hj => z j (by omega))
    exact ⟨_, by rw [e]; rfl⟩
theorem gAll_0 {P : UInt64 → UInt64 → Prop} {fw fl : Nat → UInt64} : gAll P (0, fw, fl) := fun j hj => absurd hj (Nat.not_lt_zero _)
theorem fSp2_each {M : tM} (ho : okM M) {nb i i2 jc : Nat} (hN : okN nb M) (hi : i < mO M) (hi2 : i2 < mO M) (hc : jc < mC M) {r : tAn} (h : fSp2 M i i2 jc = some r) : (∃ r1, fSp1 M i jc = some r1) ∧ ∃ r2, fSp1 M i2 jc = some r2 := by
  have n1 := gA_n M i jc gZ
  have n2 := gA_n M i2 jc (gA M i jc gZ)
  have n3 := gA_n M i2 jc gZ
  have c1 := mCnt_20 ho hi
  have c2 := mCnt_20 ho hi2
  have b1 := gA_all ho hi hc (gAll_0 (P := dW2) (fw := fun _ => 0) (fl := fun _ => 0))
  have b3 := gA_all ho hi2 hc (gAll_0 (P := dW2) (fw := fun _ => 0) (fl := fun _ => 0))
  have b2 := gA_all ho hi2 hc b1
  have k := (fSp_fits ho hN hc b2 (by rw [n2, n1]; show 0 + _ + _ ≤ 40; omega)).mp ⟨r, h⟩
  have k2 := (gOrd_all _ _ _ _ _ _ _).mp k
  exact ⟨(fSp_fits ho hN hc b1 (by rw [n1]; show 0 + _ ≤ 40; omega)).mpr k2.1, (fSp_fits ho hN hc b3 (by rw [n3]; show 0 + _ ≤ 40; omega)).mpr ((gOrd_all _ _ _ _ _ _ _).mpr ⟨gAll_0, k2.2⟩)⟩
