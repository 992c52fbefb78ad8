/-! what the other methods answer, as numbers -/
def fSpend (clk x : UInt64) : UInt64 := if FP.dcmp (FP.dadd clk x) cD2000 = some .gt then cD2000 else FP.dadd clk x
theorem fSpend_t {clk x : UInt64} (h : ¬ FP.dcmp (FP.dadd clk x) cD2000 = some .gt) : fSpend clk x = FP.dadd clk x := if_neg h
theorem fSpend_f {clk x : UInt64} (h : FP.dcmp (FP.dadd clk x) cD2000 = some .gt) : fSpend clk x = cD2000 := if_pos h
/-- how many of the orders from i on are in a state -/
def fCS (M : tM) (st : Nat) : Nat → Nat → Nat → Nat
  | 0, _, n => n
  | d + 1, i, n => fCS M st d (i + 1) (if oState (mod M i) = st then n + 1 else n)
def fBeg (clk free : UInt64) : UInt64 := if FP.dcmp clk free = some .lt ∨ FP.dcmp clk free = none then free else clk
theorem fBeg_t {clk free : UInt64} (h : FP.dcmp clk free = some .lt ∨ FP.dcmp clk free = none) : free = fBeg clk free := (if_pos h).symm
theorem fBeg_f {clk free : UInt64} (h : ¬ (FP.dcmp clk free = some .lt ∨ FP.dcmp clk free = none)) : clk = fBeg clk free := (if_neg h).symm
def fEnd (clk free : UInt64) (cnt pace : Nat) : UInt64 := FP.dadd (fBeg clk free) (FP.ddiv (FP.dmul (FP.i2d (nI cnt)) cHalf) (FP.f2d (fPace pace)))
def okEnd (clk free : UInt64) (cnt pace : Nat) : Prop := vf_n64 (FP.dmul (FP.i2d (nI cnt)) cHalf) ∧ vf_n64 (FP.f2d (fPace pace)) ∧ vf_n64 (FP.ddiv (FP.dmul (FP.i2d (nI cnt)) cHalf) (FP.f2d (fPace pace))) ∧ vf_n64 (FP.dadd (fBeg clk free) (FP.ddiv (FP.dmul (FP.i2d (nI cnt)) cHalf) (FP.f2d (fPace pace))))
def fCost (price : Nat) (nd : UInt64) : Int32 := FP.d2i (fNext (FP.ddiv (FP.dmul (FP.i2d (nI price)) nd) cD100))
def okCost (price : Nat) (nd : UInt64) : Prop := vf_n64 (FP.dmul (FP.i2d (nI price)) nd) ∧ vf_n64 (FP.ddiv (FP.dmul (FP.i2d (nI price)) nd) cD100)
def fWaste (nd cov wd : UInt64) : UInt64 := FP.dsub cD1 (FP.ddiv cov (FP.dmul nd wd))
def okWst (nd cov wd : UInt64) : Prop := FP.dcmp (FP.dmul nd wd) cD0 = some .gt ∧ vf_n64 (FP.dmul nd wd) ∧ vf_n64 (FP.ddiv cov (FP.dmul nd wd)) ∧ vf_n64 (FP.dsub cD1 (FP.ddiv cov (FP.dmul nd wd)))
/-- the greatest, or the smallest -/
def fBest (bt : Bool) (g : Nat → UInt64) : Nat → Nat → UInt64 → UInt64
  | 0, _, r => r
  | d + 1, i, r => fBest bt g d (i + 1) (if i = 0 ∨ FP.dcmp (g i) r = some (if bt then .gt else .lt) then g i else r)
theorem fBest_0 {bt : Bool} {g : Nat → UInt64} {d : Nat} {r : UInt64} : fBest bt g (d + 1) 0 r = fBest bt g d 1 (g 0) := by
  show fBest bt g d (0 + 1) (if _ then _ else _) = _
  rw [if_pos (Or.inl rfl)]
theorem fBest_p {bt : Bool} {g : Nat → UInt64} {d i : Nat} {r : UInt64} (h : FP.dcmp (g i) r = some (if bt then .gt else .lt)) : fBest bt g (d + 1) i r = fBest bt g d (i + 1) (g i) := by
  show fBest bt g d (i + 1) (if _ then _ else _) = _
  rw [if_pos (Or.inr h)]
theorem fBest_n {bt : Bool} {g : Nat → UInt64} {d i : Nat} {r : UInt64} (h0 : ¬ i = 0) (h : ¬ FP.dcmp (g i) r = some (if bt then .gt else .lt)) : fBest bt g (d + 1) i r = fBest bt g d (i + 1) r := by
  show fBest bt g d (i + 1) (if _ then _ else _) = _
  rw [if_neg (fun z => z.elim h0 h)]
def fGap (M : tM) (i j : Nat) : UInt64 := FP.dsub (fBody (mpe M (oP (mod M i))) ((mst M (oS (mod M i))).2.1 j)) (oBod (mod M i) j)
def fTgt (M : tM) (i : Nat) (bt : Bool) : UInt64 := if oState (mod M i) = 0 then cD0 else fBest bt (fGap M i) (mst M (oS (mod M i))).1 0 cD0
def fJudge (M : tM) (i : Nat) : Int32 := if FP.dcmp (fTgt M i true) cD3 = some .gt then 3 else if FP.dcmp (fTgt M i true) cHalf = some .gt then 1 else if FP.dcmp (fTgt M i false) cM4 = some .lt then 2 else 0
/-- the bodies as they are cut -/
def fKp (g : Nat → UInt64) : Nat → Nat → (Nat → UInt64) → (Nat → UInt64)
  | 0, _, b => b
  | d + 1, i, b => fKp g d (i + 1) (vf_upd b i (g i))
theorem fKp_at (g : Nat → UInt64) : ∀ (d i : Nat) (b : Nat → UInt64) (j : Nat), fKp g d i b j = if i ≤ j ∧ j < i + d then g j else b j
  | 0, i, b, j => by rw [if_neg (by omega)]; rfl
  | d + 1, i, b, j => by
    show fKp g d (i + 1) _ j = _
    rw [fKp_at g d (i + 1)]
    by_cases e : j = i
    · subst e
      rw [if_neg (by omega), if_pos (by omega), vu_s]
    · by_cases q : i + 1 ≤ j ∧ j < i + 1 + d
      · rw [if_pos q, if_pos (by omega)]
      · rw [if_neg q, if_neg (by omega), vu_n e]
def fGot (M : tM) (i : Nat) : Nat → UInt64 := fun j => fBody (mpe M (oP (mod M i))) ((mst M (oS (mod M i))).2.1 j)
/-- an order that was cut -/
def fCut (M : tM) (i : Nat) (cc co : Int32) (nd : UInt64) : tOr := (oP (mod M i), oS (mod M i), oDue (mod M i), 1, cc, co, oHand (mod M i), oReady (mod M i), oFit (mod M i), nd, fKp (fGot M i) (mst M (oS (mod M i))).1 0 (oBod (mod M i)))
/-- what two save -/
def fSaved (M : tM) (i i2 jc : Nat) : UInt64 := match fSp2 M i i2 jc, fSp1 M i jc, fSp1 M i2 jc with
  | some r, some r1, some r2 => FP.dsub (FP.dadd r1.2.2.2 r2.2.2.2) r.2.2.2
  | _, _, _ => cD0
theorem fSaved_no {M : tM} {i i2 jc : Nat} (h : fSp2 M i i2 jc = none) : fSaved M i i2 jc = cD0 := by unfold fSaved; rw [h]
theorem fSaved_so {M : tM} {i i2 jc : Nat} {r r1 r2 : tAn} (h : fSp2 M i i2 jc = some r) (h1 : fSp1 M i jc = some r1) (h2 : fSp1 M i2 jc = some r2) : fSaved M i i2 jc = FP.dsub (FP.dadd r1.2.2.2 r2.2.2.2) r.2.2.2 := by unfold fSaved; rw [h, h1, h2]
/-! none of these is no number -/
theorem cD0_zero {x : UInt64} (h : FP.dcmp x cD0 = some .gt) : True := trivial
theorem okGap {M : tM} (ho : okM M) {nb : Nat} (hN : okN nb M) {i : Nat} (hi : i < mO M) (hs : oState (mod M i) ≠ 0) : ∀ j, j < (mst M (oS (mod M i))).1 → vf_n64 (fGap M i j) := fun j hj => vf_sub (dP_body (ho_pc ho hi).1 ((ho_pc ho hi).2 j hj)).fin (((hN.2.2.2 i hi).2 hs) j hj).fin
theorem dP_beg {a b c d : Nat} {x y : UInt64} (hx : dP a b x) (hy : dP c d y) (h : b ≤ d) : dP 0 d (fBeg x y) := by
  unfold fBeg
  split
  · exact hy.wk (Nat.zero_le _) (Nat.le_refl _)
  · exact hx.wk (Nat.zero_le _) h
theorem dP_end {nb cnt pace : Nat} {clk free : UInt64} (hc : dP 0 128000 clk) (hf : dP 0 (128000 + 5120 * nb) free) (hn : cnt ≤ 20) (h1 : 1 ≤ pace) (h2 : pace ≤ 16) (hb : nb ≤ 512) : okEnd clk free cnt pace ∧ dP 0 (128000 + 5120 * (nb + 1)) (fEnd clk free cnt pace) := by
  have a1 : dP 0 640 (FP.dmul (FP.i2d (nI cnt)) cHalf) := dP_mul (dP_i2d (by omega)) dP_half (by omega) (by omega) (by omega)
  have a2 := dP_pace h1 h2
  have a3 : dP 0 5120 (FP.ddiv (FP.dmul (FP.i2d (nI cnt)) cHalf) (FP.f2d (fPace pace))) := dP_div a1 a2.1 (by omega) (by omega) (by omega) (by omega)
  have a4 := dP_add (dP_beg hc hf (by omega)) a3 (by omega)
  exact ⟨⟨vf_of a1.nn, a2.2.1, vf_of a3.nn, vf_of a4.nn⟩, a4.wk (by omega) (by omega)⟩
theorem okCost_of {price hi : Nat} {nd : UInt64} (hp : price ≤ 9) (h : dP 0 hi nd) (hh : hi ≤ 1000000) : okCost price nd := by
  have a1 : dP 0 (9 * hi) (FP.dmul (FP.i2d (nI price)) nd) := dP_mul (dP_i2d (by omega)) h (by omega) (by
    have := Nat.mul_le_mul_right hi (show 64 * price ≤ 576 by omega)
    omega) (by omega)
  have a2 : dP 0 (9 * hi) (FP.ddiv (FP.dmul (FP.i2d (nI price)) nd) cD100) := dP_div a1 dP_c100 (by omega) (by rw [Nat.zero_mul]; exact Nat.zero_le _) (by omega) (by omega)
  exact ⟨vf_of a1.nn, vf_of a2.nn⟩
theorem okWst_of {n : Nat} {nd cov wd : UInt64} (hn : 0 < n) (hn2 : n ≤ 40) (hd : dP (572 * n) (16880 * n) nd) (hc : dP 0 (3792757 * 40) cov) (hw : dP 3360 10240 wd) : okWst nd cov wd := by
  have a1 : dP 30000 108032000 (FP.dmul nd wd) := dP_mul hd hw (by omega) (by omega) (by omega)
  have a2 : dP 0 400000 (FP.ddiv cov (FP.dmul nd wd)) := dP_div hc a1 (by omega) (by rw [Nat.zero_mul]; exact Nat.zero_le _) (by omega) (by omega)
  refine ⟨(fGt_lt a1 dP_c0).mpr ?_, vf_of a1.nn, vf_of a2.nn, vf_sub dP_c1.fin a2.fin⟩
  have h1 := dP_c0.2.2
  have h2 := a1.2.1
  have h3 := uU_pos
  omega
theorem gZ_all : gAll dW2 gZ := gAll_0
theorem fSp1_ok {M : tM} (ho : okM M) {nb i jc : Nat} (hN : okN nb M) (hi : i < mO M) (hc : jc < mC M) {r : tAn} (e : fSp1 M i jc = some r) : 0 < r.2.1 ∧ r.2.1 ≤ 40 ∧ dP (572 * r.2.1) (16880 * r.2.1) r.2.2.2 ∧ dP 0 (3792757 * 40) r.1 := by
  have n1 := gA_n M i jc gZ
  have c1 := mCnt_20 ho hi
  have c2 := mCnt_pos ho hi
  have n2 : (gA M i jc gZ).1 = mCnt M i := n1.trans (by show 0 + mCnt M i = _; omega)
  obtain ⟨a1, a2, a3, a4⟩ := fSp_ok ho hN hc (gA_all ho hi hc gZ_all) (by omega) (by omega) e
  exact ⟨a1, by omega, a3, a4.wk (Nat.le_refl _) (by omega)⟩
theorem fSp2_ok {M : tM} (ho : okM M) {nb i i2 jc : Nat} (hN : okN nb M) (hi : i < mO M) (hi2 : i2 < mO M) (hc : jc < mC M) {r : tAn} (e : fSp2 M i i2 jc = some r) : 0 < r.2.1 ∧ r.2.1 ≤ 40 ∧ dP (572 * r.2.1) (16880 * r.2.1) r.2.2.2 ∧ dP 0 (3792757 * 40) r.1 := by
  have n1 := gA_n M i jc gZ
  have n3 := gA_n M i2 jc (gA M i jc gZ)
  have c1 := mCnt_20 ho hi
  have c2 := mCnt_pos ho hi
  have c3 := mCnt_20 ho hi2
  have n2 : (gA M i jc gZ).1 = mCnt M i := n1.trans (by show 0 + mCnt M i = _; omega)
  obtain ⟨a1, a2, a3, a4⟩ := fSp_ok ho hN hc (gA_all ho hi2 hc (gA_all ho hi hc gZ_all)) (by omega) (by omega) e
  exact ⟨a1, by omega, a3, a4.wk (Nat.le_refl _) (by omega)⟩
theorem sav_ok {M : tM} (ho : okM M) {nb i i2 jc : Nat} (hN : okN nb M) (hi : i < mO M) (hi2 : i2 < mO M) (hc : jc < mC M) {r r1 r2 : tAn} (e : fSp2 M i i2 jc = some r) (e1 : fSp1 M i jc = some r1) (e2 : fSp1 M i2 jc = some r2) : vf_n64 (FP.dadd r1.2.2.2 r2.2.2.2) ∧ vf_n64 (FP.dsub (FP.dadd r1.2.2.2 r2.2.2.2) r.2.2.2) := by
  obtain ⟨-, b1, b2, -⟩ := fSp1_ok ho hN hi hc e1
  obtain ⟨-, c1, c2, -⟩ := fSp1_ok ho hN hi2 hc e2
  obtain ⟨-, d1, d2, -⟩ := fSp2_ok ho hN hi hi2 hc e
  have a := dP_add b2 c2 (by omega)
  exact ⟨vf_of a.nn, vf_sub a.fin d2.fin⟩
