/-! the four calls without a wrapper, both sides -/
def SD_shut (M : tM) (y : Int32) : Int32 → tM → Prop := fun a M' => a = mShut M ∧ M' = sSh M (mClk M, mPur M, mRef M, fBo y)
theorem C_shut {l : Launch} {D : va_G} {cy : Nat → ClassId} {sad : Nat → Nat} {em : Nat} {s0 : State} {a0 : Array Value} (G : kG kSTR l D cy sad em s0 a0) {nb : Nat} {M : tM} {ad : Nat → Nat} {ct : Nat → Option va_E} (h0 : lI cy em nb M ad ct) (hnb : nb ≤ 512) (y : Int32) : KM l yX7_shut [.code yX7_shut prog_1_method_15_code 3 (some .boolean)] 0 0 0 0 [.ref (ad 1), .int (fBo y)] D s0 ad ct (dCx Value.int cy ad M (SD_shut M y)) := by
  obtain ⟨⟨hm, hfc, tb, fl, fw, fh, fr, hT⟩, hlr, ho, hN, hX, hem, ⟨fo, h90⟩, fd, h91⟩ := id h0
  refine KM.mono (c_shut G hm ho hX.1 (fBo y) (fBo_01 y)) (fun v ad' ct' hp => ?_)
  obtain ⟨rfl, rfl, h1, hr⟩ := hp
  exact ⟨_, sSh M (mClk M, mPur M, mRef M, fBo y), fo, fd, rfl, (bC_sSh h0.1 ho _ h1 hr).1, h0.2.1.mv ho (fun j hj => ⟨rfl, hr j (by omega)⟩), kSm.rf, ⟨(hr 90 (by omega)).trans h90, (hr 91 (by omega)).trans h91⟩, rfl, rfl⟩
theorem R_shut {l : Launch} {D : va_G} {cy : Nat → ClassId} {sad : Nat → Nat} {em : Nat} {s0 : State} {a0 : Array Value} (G : kG kSTR l D cy sad em s0 a0) {nb : Nat} {M : tM} (ho : okM M) (hN : okN nb M) (hX : okX M) (hnb : nb ≤ 512) (y : Int32) (adC : Nat → Nat) (ctC : Nat → Option va_E) (hlR : lR cy adC ctC M) (hem : adC 0 = em) : KM l yX11_shut [.code yX11_shut prog_10_method_36_code 3 (some .boolean)] 0 0 0 0 [.ref (adC 100), .int (fBo y)] D s0 adC ctC (dRx Value.int cy adC ctC (SD_shut M y)) := by
  obtain ⟨⟨th, sm, hm0⟩, hL0, hF, h198⟩ := id hlR
  refine KM.mono (r_shut G hm0 hX.1 (fBo y) (fBo_01 y)) (fun v ad' ct' hp => ?_)
  obtain ⟨rfl, rfl, h1, hr⟩ := hp
  have hz := bR_sSh hlR ho _ h1 hr
  exact ⟨_, sSh M (mClk M, mPur M, mRef M, fBo y), rfl, hz.1, hz.2, rfl, rfl, rfl⟩
theorem U_shut {nb : Nat} {M : tM} (ho : okM M) (hN : okN nb M) (hX : okX M) (hnb : nb ≤ 512) (y : Int32) : spOk2 nb (SD_shut M y) := by
  refine ⟨?_, ?_⟩
  · rintro a M1 b M2 ⟨rfl, rfl⟩ ⟨rfl, rfl⟩
    exact ⟨rfl, rfl⟩
  · rintro a M1 ⟨rfl, rfl⟩
    exact ⟨okM_sSh ho _, okN_sSh (hN.mono (Nat.le_succ _)) _ hN.2.1, okX_sSh hX _ (fBo_01 y)⟩
def SD_bell (M : tM) : Int32 → tM → Prop := fun a M' => a = mRef M + 1 ∧ M' = sSh M (mClk M, mPur M, mRef M + 1, mShut M)
theorem C_bell {l : Launch} {D : va_G} {cy : Nat → ClassId} {sad : Nat → Nat} {em : Nat} {s0 : State} {a0 : Array Value} (G : kG kSTR l D cy sad em s0 a0) {nb : Nat} {M : tM} {ad : Nat → Nat} {ct : Nat → Option va_E} (h0 : lI cy em nb M ad ct) (hnb : nb ≤ 512) : KM l yX7_bell [.code yX7_bell prog_1_method_16_code 1 (some .int)] 0 0 0 0 [.ref (ad 1)] D s0 ad ct (dCx Value.int cy ad M (SD_bell M)) := by
  obtain ⟨⟨hm, hfc, tb, fl, fw, fh, fr, hT⟩, hlr, ho, hN, hX, hem, ⟨fo, h90⟩, fd, h91⟩ := id h0
  refine KM.mono (c_bell G hm ho) (fun v ad' ct' hp => ?_)
  obtain ⟨rfl, rfl, h1, hr⟩ := hp
  exact ⟨_, sSh M (mClk M, mPur M, mRef M + 1, mShut M), fo, fd, rfl, (bC_sSh h0.1 ho _ h1 hr).1, h0.2.1.mv ho (fun j hj => ⟨rfl, hr j (by omega)⟩), kSm.rf, ⟨(hr 90 (by omega)).trans h90, (hr 91 (by omega)).trans h91⟩, rfl, rfl⟩
theorem R_bell {l : Launch} {D : va_G} {cy : Nat → ClassId} {sad : Nat → Nat} {em : Nat} {s0 : State} {a0 : Array Value} (G : kG kSTR l D cy sad em s0 a0) {nb : Nat} {M : tM} (ho : okM M) (hN : okN nb M) (hX : okX M) (hnb : nb ≤ 512) (adC : Nat → Nat) (ctC : Nat → Option va_E) (hlR : lR cy adC ctC M) (hem : adC 0 = em) : KM l yX11_bell [.code yX11_bell prog_10_method_37_code 1 (some .int)] 0 0 0 0 [.ref (adC 100)] D s0 adC ctC (dRx Value.int cy adC ctC (SD_bell M)) := by
  obtain ⟨⟨th, sm, hm0⟩, hL0, hF, h198⟩ := id hlR
  refine KM.mono (r_bell G hm0) (fun v ad' ct' hp => ?_)
  obtain ⟨rfl, rfl, h1, hr⟩ := hp
  have hz := bR_sSh hlR ho _ h1 hr
  exact ⟨_, sSh M (mClk M, mPur M, mRef M + 1, mShut M), rfl, hz.1, hz.2, rfl, rfl, rfl⟩
theorem U_bell {nb : Nat} {M : tM} (ho : okM M) (hN : okN nb M) (hX : okX M) (hnb : nb ≤ 512) : spOk2 nb (SD_bell M) := by
  refine ⟨?_, ?_⟩
  · rintro a M1 b M2 ⟨rfl, rfl⟩ ⟨rfl, rfl⟩
    exact ⟨rfl, rfl⟩
  · rintro a M1 ⟨rfl, rfl⟩
    exact ⟨okM_sSh ho _, okN_sSh (hN.mono (Nat.le_succ _)) _ hN.2.1, okX_sSh hX _ hX.1⟩
def SD_clock (M : tM) : UInt64 → tM → Prop := fun a M' => a = mClk M ∧ M' = M
theorem C_clock {l : Launch} {D : va_G} {cy : Nat → ClassId} {sad : Nat → Nat} {em : Nat} {s0 : State} {a0 : Array Value} (G : kG kSTR l D cy sad em s0 a0) {nb : Nat} {M : tM} {ad : Nat → Nat} {ct : Nat → Option va_E} (h0 : lI cy em nb M ad ct) (hnb : nb ≤ 512) : KM l yX7_clock [.code yX7_clock prog_1_method_23_code 1 (some .double)] 0 0 0 0 [.ref (ad 1)] D s0 ad ct (dCx Value.double cy ad M (SD_clock M)) := by
  obtain ⟨⟨hm, hfc, tb, fl, fw, fh, fr, hT⟩, hlr, ho, hN, hX, hem, ⟨fo, h90⟩, fd, h91⟩ := id h0
  refine KM.mono (c_qclock G hm ho) (fun v ad' ct' hp => ?_)
  obtain ⟨rfl, rfl, rfl⟩ := hp
  exact ⟨_, M, fo, fd, rfl, h0.1, h0.2.1, kSm.rf, ⟨h90, h91⟩, rfl, rfl⟩
theorem R_clock {l : Launch} {D : va_G} {cy : Nat → ClassId} {sad : Nat → Nat} {em : Nat} {s0 : State} {a0 : Array Value} (G : kG kSTR l D cy sad em s0 a0) {nb : Nat} {M : tM} (ho : okM M) (hN : okN nb M) (hX : okX M) (hnb : nb ≤ 512) (adC : Nat → Nat) (ctC : Nat → Option va_E) (hlR : lR cy adC ctC M) (hem : adC 0 = em) : KM l yX11_clock [.code yX11_clock prog_10_method_46_code 1 (some .double)] 0 0 0 0 [.ref (adC 100)] D s0 adC ctC (dRx Value.double cy adC ctC (SD_clock M)) := by
  obtain ⟨⟨th, sm, hm0⟩, hL0, hF, h198⟩ := id hlR
  refine KM.mono (r_clock G hm0) (fun v ad' ct' hp => ?_)
  obtain ⟨rfl, rfl, h1, hr⟩ := hp
  have hz := bR_same hlR h1 hr
  exact ⟨_, M, rfl, hz.1, hz.2, rfl, rfl, rfl⟩
theorem U_clock {nb : Nat} {M : tM} (ho : okM M) (hN : okN nb M) (hX : okX M) (hnb : nb ≤ 512) : spOk2 nb (SD_clock M) := by
  refine ⟨?_, ?_⟩
  · rintro a M1 b M2 ⟨rfl, rfl⟩ ⟨rfl, rfl⟩
    exact ⟨rfl, rfl⟩
  · rintro a M1 ⟨rfl, rfl⟩
    exact ⟨ho, hN.mono (Nat.le_succ _), hX⟩
def SD_digest (M : tM) : Int64 → tM → Prop := fun a M' => a = fDig M ∧ M' = M
theorem C_digest {l : Launch} {D : va_G} {cy : Nat → ClassId} {sad : Nat → Nat} {em : Nat} {s0 : State} {a0 : Array Value} (G : kG kSTR l D cy sad em s0 a0) {nb : Nat} {M : tM} {ad : Nat → Nat} {ct : Nat → Option va_E} (h0 : lI cy em nb M ad ct) (hnb : nb ≤ 512) : KM l yX7_digest [.code yX7_digest prog_1_method_29_code 5 (some .long)] 6 150 0 0 [.ref (ad 1)] D s0 ad ct (dCx Value.long cy ad M (SD_digest M)) := by
  obtain ⟨⟨hm, hfc, tb, fl, fw, fh, fr, hT⟩, hlr, ho, hN, hX, hem, ⟨fo, h90⟩, fd, h91⟩ := id h0
  refine KM.mono (c_digest G hm ho hT hN hnb) (fun v ad' ct' hp => ?_)
  obtain ⟨rfl, rfl, hk, hT2⟩ := hp
  exact ⟨_, M, fo, fd, rfl, h0.1.out ho hk hT2, h0.2.1.mv ho (fun j hj => ⟨rfl, hk j (by omega)⟩), kSm.rf, ⟨(hk 90 (by omega)).trans h90, (hk 91 (by omega)).trans h91⟩, rfl, rfl⟩
theorem R_digest {l : Launch} {D : va_G} {cy : Nat → ClassId} {sad : Nat → Nat} {em : Nat} {s0 : State} {a0 : Array Value} (G : kG kSTR l D cy sad em s0 a0) {nb : Nat} {M : tM} (ho : okM M) (hN : okN nb M) (hX : okX M) (hnb : nb ≤ 512) (adC : Nat → Nat) (ctC : Nat → Option va_E) (hlR : lR cy adC ctC M) (hem : adC 0 = em) : KM l yX11_digest [.code yX11_digest prog_10_method_58_code 4 (some .long)] 10 1610 865 13032 [.ref (adC 100)] D s0 adC ctC (dRx Value.long cy adC ctC (SD_digest M)) := by
  obtain ⟨⟨th, sm, hm0⟩, hL0, hF, h198⟩ := id hlR
  refine KM.mono (r_digest G hm0 hL0 ho hN hnb h198) (fun v ad' ct' hp => ?_)
  obtain ⟨sm2, rfl, rfl, h1, hr⟩ := hp
  have hz := bR_same hlR h1 hr
  exact ⟨_, M, rfl, hz.1, hz.2, rfl, rfl, rfl⟩
theorem U_digest {nb : Nat} {M : tM} (ho : okM M) (hN : okN nb M) (hX : okX M) (hnb : nb ≤ 512) : spOk2 nb (SD_digest M) := by
  refine ⟨?_, ?_⟩
  · rintro a M1 b M2 ⟨rfl, rfl⟩ ⟨rfl, rfl⟩
    exact ⟨rfl, rfl⟩
  · rintro a M1 ⟨rfl, rfl⟩
    exact ⟨ho, hN.mono (Nat.le_succ _), hX⟩
