/-! best, mate, soonest, lay as numbers -/
def fSn (M : tM) (i : Nat) : Nat → Nat → Int32 → UInt64 → Int32
  | 0, _, b, _ => b
  | d + 1, j, b, f => if b = -1 ∨ FP.dcmp (fEnd (mClk M) (mha M j).2 (mCnt M i) (mha M j).1) f = some .lt then fSn M i d (j + 1) (nI j) (fEnd (mClk M) (mha M j).2 (mCnt M i) (mha M j).1) else fSn M i d (j + 1) b f
theorem fSn_p {M : tM} {i d j : Nat} {b : Int32} {f : UInt64} (h : b = -1 ∨ FP.dcmp (fEnd (mClk M) (mha M j).2 (mCnt M i) (mha M j).1) f = some .lt) : fSn M i (d + 1) j b f = fSn M i d (j + 1) (nI j) (fEnd (mClk M) (mha M j).2 (mCnt M i) (mha M j).1) := if_pos h
theorem fSn_n {M : tM} {i d j : Nat} {b : Int32} {f : UInt64} (h1 : ¬ b = -1) (h : ¬ FP.dcmp (fEnd (mClk M) (mha M j).2 (mCnt M i) (mha M j).1) f = some .lt) : fSn M i (d + 1) j b f = fSn M i d (j + 1) b f := if_neg (fun z => z.elim h1 h)
def fMt (M : tM) (i jc : Nat) : Nat → Nat → Int32 → UInt64 → Int32
  | 0, _, b, _ => b
  | d + 1, j, b, f => if ¬ j = i ∧ oState (mod M j) = 0 ∧ FP.dcmp (fSaved M i j jc) f = some .gt then fMt M i jc d (j + 1) (nI j) (fSaved M i j jc) else fMt M i jc d (j + 1) b f
theorem fMt_p {M : tM} {i jc d j : Nat} {b : Int32} {f : UInt64} (h : ¬ j = i ∧ oState (mod M j) = 0 ∧ FP.dcmp (fSaved M i j jc) f = some .gt) : fMt M i jc (d + 1) j b f = fMt M i jc d (j + 1) (nI j) (fSaved M i j jc) := if_pos h
theorem fMt_n {M : tM} {i jc d j : Nat} {b : Int32} {f : UInt64} (h : ¬ (¬ j = i ∧ oState (mod M j) = 0 ∧ FP.dcmp (fSaved M i j jc) f = some .gt)) : fMt M i jc (d + 1) j b f = fMt M i jc d (j + 1) b f := if_neg h
abbrev fWorth (M : tM) (j : Nat) (r : tAn) : UInt64 := FP.dmul (FP.i2d (nI (mcl M j).2.2.2.2.2)) r.2.2.2
/-- whether a cloth is the better one -/
def fBt (M : tM) (i j : Nat) (b : Int32) (f : UInt64) : Option UInt64 := match fSp1 M i j with
  | none => none
  | some r => if dGe (mcl M j).2.1 r.2.2.2 ∧ (b = -1 ∨ FP.dcmp (fWorth M j r) f = some .lt) then some (fWorth M j r) else none
def fBs (M : tM) (i : Nat) : Nat → Nat → Int32 → UInt64 → Int32
  | 0, _, b, _ => b
  | d + 1, j, b, f => match fBt M i j b f with
    | some w => fBs M i d (j + 1) (nI j) w
    | none => fBs M i d (j + 1) b f
theorem fBs_p {M : tM} {i d j : Nat} {b : Int32} {f w : UInt64} (h : fBt M i j b f = some w) : fBs M i (d + 1) j b f = fBs M i d (j + 1) (nI j) w := by
  show (match fBt M i j b f with | some w => _ | none => _) = _
  rw [h]
theorem fBs_n {M : tM} {i d j : Nat} {b : Int32} {f : UInt64} (h : fBt M i j b f = none) : fBs M i (d + 1) j b f = fBs M i d (j + 1) b f := by
  show (match fBt M i j b f with | some w => _ | none => _) = _
  rw [h]
theorem fBt_0 {M : tM} {i j : Nat} {b : Int32} {f : UInt64} (h : fSp1 M i j = none) : fBt M i j b f = none := by unfold fBt; rw [h]
theorem fBt_p {M : tM} {i j : Nat} {b : Int32} {f : UInt64} {r : tAn} (h : fSp1 M i j = some r) (h1 : dGe (mcl M j).2.1 r.2.2.2) (h2 : b = -1 ∨ FP.dcmp (fWorth M j r) f = some .lt) : fBt M i j b f = some (fWorth M j r) := by
  unfold fBt; rw [h]; exact if_pos ⟨h1, h2⟩
theorem fBt_n {M : tM} {i j : Nat} {b : Int32} {f : UInt64} {r : tAn} (h : fSp1 M i j = some r) (h2 : ¬ (dGe (mcl M j).2.1 r.2.2.2 ∧ (b = -1 ∨ FP.dcmp (fWorth M j r) f = some .lt))) : fBt M i j b f = none := by
  unfold fBt; rw [h]; exact if_neg h2
def fLA (wd : UInt64) (r : tAn) : Nat → UInt64
  | 0 => r.2.2.2
  | 1 => fWaste r.2.2.2 r.1 wd
  | 2 => FP.i2d (nI r.2.1)
  | _ => FP.i2d (nI r.2.2.1)
def fSpo (M : tM) (i : Nat) (o : Option Nat) (jc : Nat) : Option tAn := match o with
  | none => fSp1 M i jc
  | some i2 => fSp2 M i i2 jc
def fLayV (M : tM) (i : Nat) (o : Option Nat) (jc wk : Nat) : UInt64 := match fSpo M i o jc with
  | none => cM1
  | some r => fLA (mWd M jc) r wk
theorem fLayV_0 {M : tM} {i : Nat} {o : Option Nat} {jc wk : Nat} (h : fSpo M i o jc = none) : fLayV M i o jc wk = cM1 := by unfold fLayV; rw [h]
theorem fLayV_s {M : tM} {i : Nat} {o : Option Nat} {jc wk : Nat} {r : tAn} (h : fSpo M i o jc = some r) : fLayV M i o jc wk = fLA (mWd M jc) r wk := by unfold fLayV; rw [h]
/-- the order that lies beside -/
def kOth (x : Int32) (n : Nat) (o : Option Nat) : Prop := (x = -1 ∧ o = none) ∨ ∃ i2, i2 < n ∧ x = nI i2 ∧ o = some i2
theorem okWst_sp {M : tM} (ho : okM M) {nb i jc : Nat} (hN : okN nb M) (hi : i < mO M) (hc : jc < mC M) {o : Option Nat} (hoo : ∀ i2, o = some i2 → i2 < mO M) {r : tAn} (e : fSpo M i o jc = some r) : okWst r.2.2.2 r.1 (mWd M jc) ∧ r.2.1 ≤ 40 := by
  have key : 0 < r.2.1 ∧ r.2.1 ≤ 40 ∧ dP (572 * r.2.1) (16880 * r.2.1) r.2.2.2 ∧ dP 0 (3792757 * 40) r.1 := by
    cases o with
    | none => exact fSp1_ok ho hN hi hc e
    | some i2 => exact fSp2_ok ho hN hi (hoo i2 rfl) hc e
  obtain ⟨a1, a2, a3, a4⟩ := key
  exact ⟨okWst_of a1 a2 a3 a4 (hN.1 jc hc).1, a2⟩
theorem okWorth {M : tM} (ho : okM M) {nb i jc : Nat} (hN : okN nb M) (hi : i < mO M) (hc : jc < mC M) {r : tAn} (e : fSp1 M i jc = some r) : vf_n64 (fWorth M jc r) := by
  obtain ⟨a1, a2, a3, a4⟩ := fSp1_ok ho hN hi hc e
  exact (okCost_of (ho.2.1 jc hc).2.2.2.2 (a3.wk (Nat.zero_le _) (show _ ≤ 675200 by omega)) (by omega)).1
theorem okEndM {M : tM} (ho : okM M) {nb i k : Nat} (hN : okN nb M) (hb : nb ≤ 512) (hi : i < mO M) (hk : k < mH M) : okEnd (mClk M) (mha M k).2 (mCnt M i) (mha M k).1 :=
  (dP_end hN.2.1 (hN.2.2.1 k hk) (mCnt_20 ho hi) (ho.2.2.2.2.1 k hk).1 (ho.2.2.2.2.1 k hk).2 hb).1
theorem kIn_le {x : Int32} {n : Nat} (h : ¬ (x < 0 ∨ nI n < x)) (hn : n < 2 ^ 20) : kIn x (n + 1) := by
  obtain ⟨j, hj, rfl⟩ := nI_of (fun z => h (Or.inl z))
  refine ⟨j, ?_, rfl⟩
  rcases Nat.lt_or_ge j (n + 1) with q | q
  · exact q
  · exact absurd (Or.inr (nI_lt (show n < j by omega) hj)) h
theorem kIn_nle {x : Int32} {n : Nat} (h : x < 0 ∨ nI n < x) (hn : n < 2 ^ 20) : ¬ kIn x (n + 1) := by
  rintro ⟨j, hj, rfl⟩
  rcases h with h | h
  · exact nI_pos (by omega) h
  · exact nI_nlt (show j ≤ n by omega) (by omega) h
