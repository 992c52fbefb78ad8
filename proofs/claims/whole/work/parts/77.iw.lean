/-! the bounds and the rest behind washing, cutting, sewing, fitting, giving -/
section INVO
theorem okCl_wash {nb : Nat} {M : tM} (ho : okM M) (hN : okN nb M) {jc : Nat} (hc : jc < mC M) : okCl (fWash (mcl M jc)) := by
  obtain ⟨h1, h2, h3⟩ := hN.1 jc hc
  have hk := (ho.2.1 jc hc).1
  have hl : dP 0 192000 (FP.dmul (mcl M jc).2.1 (fLeft (mcl M jc).2.2.1)) := dP_mul h2 (dP_left (by omega)) (by rw [Nat.zero_mul]; exact Nat.zero_le _) (Nat.le_of_ble_eq_true rfl) (Nat.le_of_ble_eq_true rfl)
  have hw : dP 3360 10240 (FP.dmul (mcl M jc).1 (fLeft (mcl M jc).2.2.1)) := by
    rcases Nat.eq_zero_or_pos (mcl M jc).2.2.1 with q | q
    · rw [q]
      exact dP_mul h1 dP_left0 (Nat.le_of_ble_eq_true rfl) (Nat.le_of_ble_eq_true rfl) (Nat.le_of_ble_eq_true rfl)
    · exact dP_mul (h3 q) (dP_left (by omega)) (Nat.le_of_ble_eq_true rfl) (Nat.le_of_ble_eq_true rfl) (Nat.le_of_ble_eq_true rfl)
  exact ⟨hw, hl, fun z => absurd z (Nat.lt_irrefl 0)⟩
theorem okCl_cut {nb : Nat} {M : tM} (hN : okN nb M) {jc : Nat} (hc : jc < mC M) {nd : UInt64} (hd : dP 572 675200 nd) (hl : ¬ FP.dcmp (mcl M jc).2.1 nd = some .lt) : okCl (fCutC M jc nd) := by
  obtain ⟨h1, h2, h3⟩ := hN.1 jc hc
  rw [dP_cmp h2 hd] at hl
  have hle : fM nd ≤ fM (mcl M jc).2.1 := by
    rcases Nat.lt_or_ge (fM (mcl M jc).2.1) (fM nd) with z | z
    · exact absurd (congrArg some (Nat.compare_eq_lt.mpr z)) hl
    · exact z
  exact ⟨h1, (dP_sub (lo := 0) h2 (hd.wk (Nat.zero_le _) (Nat.le_refl _)) (by rw [Nat.zero_mul]; omega) (by omega)).1, h3⟩
theorem okB_cut {M : tM} (ho : okM M) {i : Nat} (hi : i < mO M) {cc co : Int32} {nd : UInt64} : ∀ j, j < (mst M (oS (mod M i))).1 → dP 400 13440 (oBod (fCut M i cc co nd) j) := by
  intro j hj
  show dP 400 13440 (fKp (fGot M i) (mst M (oS (mod M i))).1 0 (oBod (mod M i)) j)
  rw [fKp_at, if_pos ⟨Nat.zero_le _, by omega⟩]
  exact dP_body (ho_pc ho hi).1 ((ho_pc ho hi).2 j hj)
theorem okN_fC1 {nb : Nat} {M : tM} (hN : okN nb M) {jc : Nat} (hc : jc < mC M) {nd : UInt64} (hd : dP 572 675200 nd) (hl : ¬ FP.dcmp (mcl M jc).2.1 nd = some .lt) : okN nb (fC1 M jc nd) := okN_sCl hN _ (okCl_cut hN hc hd hl)
theorem okN_fC2 {nb : Nat} {M : tM} (ho : okM M) (hN : okN nb M) {i jc : Nat} (hi : i < mO M) (hc : jc < mC M) {nd nk : UInt64} (hd : dP 572 675200 nd) (hl : ¬ FP.dcmp (mcl M jc).2.1 nd = some .lt) : okN nb (fC2 M i jc nd nk) :=
  okN_sOr (okN_fC1 hN hc hd hl) _ (hN.2.2.2 i hi).1 (fun _ => okB_cut (okM_fC1 ho hc nd) hi)
theorem fC2_or {M : tM} {i i2 jc : Nat} {nd nk : UInt64} (h : i2 ≠ i) : mod (fC2 M i jc nd nk) i2 = mod M i2 := vu_n h
theorem okN_fC3 {nb : Nat} {M : tM} (ho : okM M) (hN : okN nb M) {i jc : Nat} (hi : i < mO M) (hc : jc < mC M) {nd nk : UInt64} (hd : dP 572 675200 nd) (hl : ¬ FP.dcmp (mcl M jc).2.1 nd = some .lt) (o : Option Nat) (hoo : ∀ i2, o = some i2 → i2 < mO M) : okN nb (fC3 M i jc nd nk o) := by
  cases o with
  | none => exact okN_fC2 ho hN hi hc hd hl
  | some i2 =>
    have h2 := okN_fC2 (nk := nk) ho hN hi hc hd hl
    exact okN_sOr h2 _ (h2.2.2.2 i2 (hoo i2 rfl)).1 (fun _ => okB_cut (okM_fC2 ho hi hc nd nk) (hoo i2 rfl))
theorem okX_fC1 {M : tM} (h : okX M) {jc : Nat} {nd : UInt64} : okX (fC1 M jc nd) := okX_sCl h _ _ rfl
theorem okX_fC2 {M : tM} (h : okX M) {i jc : Nat} (hi : i < mO M) (hc : jc < mC M) {nd nk : UInt64} (hk : dP 0 675200 nk) : okX (fC2 M i jc nd nk) := by
  refine okX_sOr (okX_fC1 h) hi _ (fun z => absurd z (show ¬ (1 : Nat) = 0 by decide)) (fun _ => ⟨jc, hc, rfl, ?_, hk⟩) rfl
  show fCost (mcl M jc).2.2.2.2.2 nk = fCost (mcl (fC1 M jc nd) jc).2.2.2.2.2 nk
  rw [fC1_pr]
theorem okX_fC3 {M : tM} (h : okX M) {i jc : Nat} (hi : i < mO M) (hc : jc < mC M) {nd nk : UInt64} (hk : dP 0 675200 nk) (o : Option Nat) (hoo : ∀ i2, o = some i2 → i2 < mO M) : okX (fC3 M i jc nd nk o) := by
  cases o with
  | none => exact okX_fC2 h hi hc hk
  | some i2 =>
    refine okX_sOr (okX_fC2 h hi hc hk) (hoo i2 rfl) _ (fun z => absurd z (show ¬ (1 : Nat) = 0 by decide)) (fun _ => ⟨jc, hc, rfl, ?_, hk⟩) rfl
    show fCost (mcl M jc).2.2.2.2.2 nk = fCost (mcl (fC1 M jc nd) jc).2.2.2.2.2 nk
    rw [fC1_pr]
theorem inv_cut {nb : Nat} {M : tM} (ho : okM M) (hN : okN nb M) (hX : okX M) {i jc : Nat} (hi : i < mO M) (hc : jc < mC M) {o : Option Nat} (hoo : ∀ i2, o = some i2 → i2 < mO M) {r : tAn} (e : fSpo M i o jc = some r) (hl : ¬ FP.dcmp (mcl M jc).2.1 r.2.2.2 = some .lt) :
    okM (fC4 M i jc r.2.2.2 (fNdK o r.2.2.2) o) ∧ okN (nb + 1) (fC4 M i jc r.2.2.2 (fNdK o r.2.2.2) o) ∧ okX (fC4 M i jc r.2.2.2 (fNdK o r.2.2.2) o) := by
  obtain ⟨h1, h2, -, -⟩ := fSpo_ok ho hN hi hc hoo e
  have hq : dP 0 (16 * 40) (FP.dmul cQuart (FP.i2d (nI (fLaid M i o)))) := by
    have c1 := mCnt_20 ho hi
    have c2 : fLaid M i o ≤ 40 := by
      cases o with
      | none => show mCnt M i ≤ 40; omega
      | some i2 => have := mCnt_20 ho (hoo i2 rfl); show mCnt M i + mCnt M i2 ≤ 40; omega
    exact dP_mul dP_quart (dP_i2d (by omega)) (by rw [Nat.zero_mul]; exact Nat.zero_le _) (by omega) (by omega)
  exact ⟨okM_fC4 ho hi hc _ _ o hoo, okN_sSh ((okN_fC3 ho hN hi hc h1 hl o hoo).mono (Nat.le_succ _)) _ (dP_spend hN.2.1 hq (by omega)), okX_sSh (okX_fC3 hX hi hc h2 o hoo) _ hX.1⟩
/-- sewing -/
abbrev fSewO (M : tM) (i kh : Nat) (xh : Int32) : tOr := (oP (mod M i), oS (mod M i), oDue (mod M i), 2, oCloth (mod M i), oCost (mod M i), xh, (fEnd (mClk M) (mha M kh).2 (mCnt M i) (mha M kh).1), oFit (mod M i), oNeeds (mod M i), oBod (mod M i))
abbrev fSewH (M : tM) (i kh : Nat) : tHa := ((mha M kh).1, (fEnd (mClk M) (mha M kh).2 (mCnt M i) (mha M kh).1))
def fSewM (M : tM) (i kh : Nat) (xh : Int32) : tM := sOr (sHa M kh (fSewH M i kh)) i (fSewO M i kh xh)
theorem inv_sew {nb : Nat} {M : tM} (ho : okM M) (hN : okN nb M) (hX : okX M) (hnb : nb ≤ 512) {i kh : Nat} (hi : i < mO M) (hk : kh < mH M) (hs : oState (mod M i) = 1) (xh : Int32) : okM (fSewM M i kh xh) ∧ okN (nb + 1) (fSewM M i kh xh) ∧ okX (fSewM M i kh xh) := by
  have hp := ho.2.2.2.2.1 kh hk
  have hE := (dP_end (nb := nb) hN.2.1 (hN.2.2.1 kh hk) (mCnt_20 ho hi) hp.1 hp.2 hnb).2
  have hs1 : oState (mod M i) ≠ 0 := by rw [hs]; decide
  exact ⟨okM_sOr (okM_sHa ho kh (fSewH M i kh) hp) hi (fSewO M i kh xh) rfl rfl (show 2 ≤ 5 by decide), okN_sOr (okN_sHa (hN.mono (Nat.le_succ _)) (fSewH M i kh) hE) (fSewO M i kh xh) (Or.inr hE) (fun _ => (hN.2.2.2 i hi).2 hs1), okX_sOr (okX_sHa hX kh (fSewH M i kh)) hi (fSewO M i kh xh) (fun z => absurd z (show ¬ (2 : Nat) = 0 by decide)) (fun _ => (hX.2.1 i hi).2 hs1) rfl⟩
/-- fitting -/
def fFitM (M : tM) (i : Nat) : tM := sOr (sSh M (fFitC M i, M.2.1.2)) i (fFitO M i)
theorem inv_fit {nb : Nat} {M : tM} (ho : okM M) (hN : okN nb M) (hX : okX M) {i : Nat} (hi : i < mO M) (hs : oState (mod M i) = 2) : okM (fFitM M i) ∧ okN (nb + 1) (fFitM M i) ∧ okX (fFitM M i) := by
  have hs1 : oState (mod M i) ≠ 0 := by rw [hs]; decide
  have hst : oState (fFitO M i) ≤ 5 ∧ oState (fFitO M i) ≠ 0 := by
    show (if fJudge M i = 3 then 5 else 3) ≤ 5 ∧ (if fJudge M i = 3 then 5 else 3) ≠ 0
    split <;> decide
  have hc : dP 0 128000 (fFitC M i) := by
    unfold fFitC
    split
    · exact dP_spend hN.2.1 dP_c1 (by decide)
    · split
      · exact dP_spend hN.2.1 dP_half (by decide)
      · exact hN.2.1
  exact ⟨okM_sOr (okM_sSh ho _) hi (fFitO M i) rfl rfl hst.1, okN_sOr (okN_sSh (hN.mono (Nat.le_succ _)) (fFitC M i, M.2.1.2) hc) (fFitO M i) ((hN.mono (Nat.le_succ _)).2.2.2 i hi).1 (fun _ => (hN.2.2.2 i hi).2 hs1), okX_sOr (okX_sSh hX (fFitC M i, M.2.1.2) hX.1) hi (fFitO M i) (fun z => absurd z hst.2) (fun _ => (hX.2.1 i hi).2 hs1) rfl⟩
/-- giving -/
def fGiveM (M : tM) (i : Nat) : tM := sOr (sSh M (mClk M, mPur M + fGive M i, M.2.1.2.2)) i (fGiveO M i)
theorem inv_give {nb : Nat} {M : tM} (ho : okM M) (hN : okN nb M) (hX : okX M) {i : Nat} (hi : i < mO M) (hs : oState (mod M i) = 3) : okM (fGiveM M i) ∧ okN (nb + 1) (fGiveM M i) ∧ okX (fGiveM M i) := by
  have hs1 : oState (mod M i) ≠ 0 := by rw [hs]; decide
  exact ⟨okM_sOr (okM_sSh ho _) hi (fGiveO M i) rfl rfl (show 4 ≤ 5 by decide), okN_sOr (okN_sSh (hN.mono (Nat.le_succ _)) (mClk M, mPur M + fGive M i, M.2.1.2.2) hN.2.1) (fGiveO M i) ((hN.mono (Nat.le_succ _)).2.2.2 i hi).1 (fun _ => (hN.2.2.2 i hi).2 hs1), okX_sOr (okX_sSh hX (mClk M, mPur M + fGive M i, M.2.1.2.2) hX.1) hi (fGiveO M i) (fun z => absurd z (show ¬ (4 : Nat) = 0 by decide)) (fun _ => (hX.2.1 i hi).2 hs1) rfl⟩
/-- an order taken -/
def fTakeM (M : tM) (q i : Nat) (hh : Int32) : tM := sSt (aOr M (q, i, hh, 0, -1, 0, -1, cM1, -1, cD0, fun _ => 0)) i ((mst M i).1, (mst M i).2.1, 1)
theorem inv_take {nb : Nat} {M : tM} (ho : okM M) (hN : okN nb M) (hX : okX M) {q i : Nat} (hq : q < mP M) (hi : i < mS M) (hm : mO M < 8) (hp : 0 < (mst M i).1) (hh : Int32) : okM (fTakeM M q i hh) ∧ okN (nb + 1) (fTakeM M q i hh) ∧ okX (fTakeM M q i hh) :=
  ⟨okM_sSt (okM_aOr ho hm _ hq hi hp (show 0 ≤ 5 by decide)) _ rfl rfl (Or.inr rfl), okN_sSt (okN_aOr (hN.mono (Nat.le_succ _)) _ rfl rfl) _ (Or.inl rfl), okX_order hX (q, i, hh, 0, -1, 0, -1, cM1, -1, cD0, fun _ => 0) rfl rfl⟩
end INVO
