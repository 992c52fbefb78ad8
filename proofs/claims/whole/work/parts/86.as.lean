/-! the asks: each side, and why they agree -/
theorem fBo_bt (y : Int32) : fBo y = if (decide (¬ y = 0)) = true then 1 else 0 := by
  unfold fBo
  by_cases h : y = 0
  · simp [h]
  · simp [h]
theorem kOth_inj {x : Int32} {n : Nat} {o o2 : Option Nat} (h : kOth x n o) (h2 : kOth x n o2) (hn : n < 2 ^ 31) : o = o2 := by
  rcases h with ⟨rfl, rfl⟩ | ⟨i, hi, rfl, rfl⟩ <;> rcases h2 with ⟨e, rfl⟩ | ⟨j, hj, e, rfl⟩
  · rfl
  · exact absurd e.symm (nI_m1 (by omega))
  · exact absurd e (nI_m1 (by omega))
  · rw [nI_inj e (by omega) (by omega)]

def SQ_ofCloth (M : tM) (x wh : Int32) : UInt64 → tM → Prop := fun a M' => M' = M ∧ ∃ (jc wk : Nat), jc < mC M ∧ x = nI jc ∧ wk < 6 ∧ wh = nI wk ∧ a = fOC (mcl M jc) wk
set_option maxHeartbeats 1000000 in
theorem C_ofCloth {l : Launch} {D : va_G} {cy : Nat → ClassId} {sad : Nat → Nat} {em : Nat} {s0 : State} {a0 : Array Value} (G : kG kSTR l D cy sad em s0 a0) (N3 : kN3 s0) {nb : Nat} {M : tM} {ad : Nat → Nat} {ct : Nat → Option va_E} (h0 : lI cy em nb M ad ct) (hnb : nb ≤ 512) (x wh : Int32) : KM l yL_ofCloth [.codeWith yL_ofCloth method_16_code 5 (some .int) [(0, 9, 12, 21), (0, 9, 16, 13)]] 8 143 2 12 [.ref (ad 1), .int x, .int wh, .ref (ad 91)] D s0 ad ct (oCd cy ad M (spG (¬ kIn x (mC M)) (kIn x (mC M) ∧ ¬ kIn wh 6) False (SQ_ofCloth M x wh) M)) := by
  obtain ⟨⟨hm, hfc, tb, fl, fw, fh, fr, hT⟩, hlr, ho, hN, hX, hem, ⟨fo, h90⟩, fd, h91⟩ := id h0
  refine V_ofCloth G N3 h0 (c_qofCloth G hm ho x wh ) (fun v ad' ct1 hp => ?_) (fun E h => h)
  obtain ⟨jc, wk, c1, c2, c3, c4, rfl, rfl, rfl⟩ := hp
  exact ⟨_, M, rfl, ⟨h0.1, kFr.rf⟩, ho, rfl, rfl, jc, wk, c1, c2, c3, c4, rfl⟩
set_option maxHeartbeats 1000000 in
theorem R_ofCloth {l : Launch} {D : va_G} {cy : Nat → ClassId} {sad : Nat → Nat} {em : Nat} {s0 : State} {a0 : Array Value} (G : kG kSTR l D cy sad em s0 a0) {nb : Nat} {M : tM} (ho : okM M) (hN : okN nb M) (hX : okX M) (hnb : nb ≤ 512) (x wh : Int32) (adC : Nat → Nat) (ctC : Nat → Option va_E) (hlR : lR cy adC ctC M) (hem : adC 0 = em) : KM l yX11_ofCloth [.code yX11_ofCloth prog_10_method_39_code 3 (some .double)] 4 120 1 6 [.ref (adC 100), .int x, .int wh] D s0 adC ctC (oRd cy adC ctC (spG (¬ kIn x (mC M)) (kIn x (mC M) ∧ ¬ kIn wh 6) False (SQ_ofCloth M x wh) M)) := by
  obtain ⟨⟨th, sm, hm0⟩, hL0, hF, h198⟩ := id hlR
  refine KM.mono (r_qofCloth G hm0 hL0 ho hlR.hfr   x wh) (fun v ad' ct' hp => ?_)
  obtain ⟨b, th', rfl, rfl, h1, hk, hc⟩ := hp
  rcases hc with ⟨f, rfl⟩ | ⟨f1, f2, rfl⟩ | ⟨jc, wk, c1, c2, c3, c4, rfl, rfl⟩
  · exact oRd_no hlR h1 hk (Or.inl ⟨f, rfl⟩)
  · exact oRd_no hlR h1 hk (Or.inr (Or.inl ⟨⟨f1, f2⟩, rfl⟩))
  · exact oRd_yes h1 (hlR.th h1 hk) (fun j hj => ⟨rfl, hk j (by omega)⟩) rfl ⟨rfl, jc, wk, c1, c2, c3, c4, rfl⟩
theorem U_ofCloth {nb : Nat} {M : tM} (hv : okM M ∧ okN (nb + 1) M ∧ okX M) (x wh : Int32) : spOk nb (spG (¬ kIn x (mC M)) (kIn x (mC M) ∧ ¬ kIn wh 6) False (SQ_ofCloth M x wh) M) := by
  have hb := hv.1.1
  refine spG_ok (fun f g => f g.1) (fun _ z => z.elim) (fun _ z => z.elim) (fun f a M' ⟨_, q1, q2, c1, c2, c3, c4, _⟩ => f ⟨q1, c1, c2⟩) (fun f a M' ⟨_, q1, q2, c1, c2, c3, c4, _⟩ => f.2 ⟨q2, c3, c4⟩) (fun f _ _ _ => f.elim) ?_ hv (fun a M1 h => by obtain ⟨rfl, -⟩ := h; exact hv)
  rintro a M1 b M2 ⟨rfl, jc, wk, c1, c2, c3, c4, rfl⟩ ⟨rfl, jc2, wk2, d1, d2, d3, d4, rfl⟩
  obtain rfl := nI_inj (c2.symm.trans d2) (by omega) (by omega)
  obtain rfl := nI_inj (c4.symm.trans d4) (by omega) (by omega)
  exact ⟨rfl, rfl⟩
def SQ_size (M : tM) (x xp xq y : Int32) : UInt64 → tM → Prop := fun a M' => M' = M ∧ ∃ (i j q : Nat), i < mS M ∧ x = nI i ∧ j < (mst M i).1 ∧ xp = nI j ∧ q < mP M ∧ xq = nI q ∧ a = if fBo y = 0 then fBody (mpe M q) ((mst M i).2.1 j) else fTall (mpe M q) ((mst M i).2.1 j)
set_option maxHeartbeats 1000000 in
theorem C_size {l : Launch} {D : va_G} {cy : Nat → ClassId} {sad : Nat → Nat} {em : Nat} {s0 : State} {a0 : Array Value} (G : kG kSTR l D cy sad em s0 a0) (N3 : kN3 s0) {nb : Nat} {M : tM} {ad : Nat → Nat} {ct : Nat → Option va_E} (h0 : lI cy em nb M ad ct) (hnb : nb ≤ 512) (x xp xq y : Int32) : KM l yL_size [.codeWith yL_size method_17_code 7 (some .int) [(0, 13, 16, 21)]] 8 147 2 12 [.ref (ad 1), .int x, .int xp, .int xq, .int (fBo y), .ref (ad 91)] D s0 ad ct (oCd cy ad M (spG (¬ kIn x (mS M) ∨ (∃ i, i < mS M ∧ x = nI i ∧ ¬ kIn xp (mst M i).1) ∨ ¬ kIn xq (mP M)) (False) False (SQ_size M x xp xq y) M)) := by
  obtain ⟨⟨hm, hfc, tb, fl, fw, fh, fr, hT⟩, hlr, ho, hN, hX, hem, ⟨fo, h90⟩, fd, h91⟩ := id h0
  refine V_size G N3 h0 (c_qsize G hm ho x xp xq (fBo y)) (fun v ad' ct1 hp => ?_) (fun E h => h)
  obtain ⟨i, j, q, c1, c2, c3, c4, c5, c6, rfl, rfl, rfl⟩ := hp
  exact ⟨_, M, rfl, ⟨h0.1, kFr.rf⟩, ho, rfl, rfl, i, j, q, c1, c2, c3, c4, c5, c6, rfl⟩
set_option maxHeartbeats 1000000 in
theorem R_size {l : Launch} {D : va_G} {cy : Nat → ClassId} {sad : Nat → Nat} {em : Nat} {s0 : State} {a0 : Array Value} (G : kG kSTR l D cy sad em s0 a0) {nb : Nat} {M : tM} (ho : okM M) (hN : okN nb M) (hX : okX M) (hnb : nb ≤ 512) (x xp xq y : Int32) (adC : Nat → Nat) (ctC : Nat → Option va_E) (hlR : lR cy adC ctC M) (hem : adC 0 = em) : KM l yX11_size [.code yX11_size prog_10_method_40_code 6 (some .double)] 6 200 0 0 [.ref (adC 100), .int x, .int xp, .int xq, .int (fBo y)] D s0 adC ctC (oRd cy adC ctC (spG (¬ kIn x (mS M) ∨ (∃ i, i < mS M ∧ x = nI i ∧ ¬ kIn xp (mst M i).1) ∨ ¬ kIn xq (mP M)) (False) False (SQ_size M x xp xq y) M)) := by
  obtain ⟨⟨th, sm, hm0⟩, hL0, hF, h198⟩ := id hlR
  refine KM.mono (r_qsize G hm0 hL0 ho hlR.hfr   x xp xq (fBo y)) (fun v ad' ct' hp => ?_)
  obtain ⟨b, th', rfl, rfl, h1, hk, hc⟩ := hp
  rcases hc with ⟨f, rfl⟩ | ⟨i, j, q, c1, c2, c3, c4, c5, c6, rfl, rfl⟩
  · exact oRd_no hlR h1 hk (Or.inl ⟨f, rfl⟩)
  · exact oRd_yes h1 (hlR.th h1 hk) (fun j hj => ⟨rfl, hk j (by omega)⟩) rfl ⟨rfl, i, j, q, c1, c2, c3, c4, c5, c6, rfl⟩
theorem U_size {nb : Nat} {M : tM} (hv : okM M ∧ okN (nb + 1) M ∧ okX M) (x xp xq y : Int32) : spOk nb (spG (¬ kIn x (mS M) ∨ (∃ i, i < mS M ∧ x = nI i ∧ ¬ kIn xp (mst M i).1) ∨ ¬ kIn xq (mP M)) (False) False (SQ_size M x xp xq y) M) := by
  have hb := hv.1.1
  have hb3 := hv.1.2.2.2.1
  refine spG_ok (fun _ z => z.elim) (fun _ z => z.elim) (fun _ z => z.elim) (fun f a M' ⟨_, q1, q2, q3, c1, c2, c3, c4, c5, c6, _⟩ => f.elim (fun z => z ⟨q1, c1, c2⟩) (fun z => z.elim (fun ⟨i2, g1, g2, g3⟩ => by obtain rfl := nI_inj (c2.symm.trans g2) (by omega) (by omega); exact g3 ⟨q2, c3, c4⟩) (fun z => z ⟨q3, c5, c6⟩))) (fun f _ _ _ => f.elim) (fun f _ _ _ => f.elim) ?_ hv (fun a M1 h => by obtain ⟨rfl, -⟩ := h; exact hv)
  rintro a M1 b M2 ⟨rfl, i, j, q, c1, c2, c3, c4, c5, c6, rfl⟩ ⟨rfl, i2, j2, q2, d1, d2, d3, d4, d5, d6, rfl⟩
  obtain rfl := nI_inj (c2.symm.trans d2) (by omega) (by omega)
  have h5 := (hb3 i c1).1
  obtain rfl := nI_inj (c4.symm.trans d4) (by omega) (by omega)
  obtain rfl := nI_inj (c6.symm.trans d6) (by omega) (by omega)
  exact ⟨rfl, rfl⟩
def SQ_ofOrder (M : tM) (x wh : Int32) : Int32 → tM → Prop := fun a M' => M' = M ∧ ∃ (i wk : Nat), i < mO M ∧ x = nI i ∧ wk < 8 ∧ wh = nI wk ∧ a = fOO M i wk
set_option maxHeartbeats 1000000 in
theorem C_ofOrder {l : Launch} {D : va_G} {cy : Nat → ClassId} {sad : Nat → Nat} {em : Nat} {s0 : State} {a0 : Array Value} (G : kG kSTR l D cy sad em s0 a0) (N3 : kN3 s0) {nb : Nat} {M : tM} {ad : Nat → Nat} {ct : Nat → Option va_E} (h0 : lI cy em nb M ad ct) (hnb : nb ≤ 512) (x wh : Int32) : KM l yL_ofOrder [.codeWith yL_ofOrder method_18_code 5 (some .int) [(0, 10, 13, 21), (0, 10, 17, 13)]] 8 143 2 12 [.ref (ad 1), .int x, .int wh, .ref (ad 90)] D s0 ad ct (oCi cy ad M (spG (¬ kIn x (mO M)) (kIn x (mO M) ∧ ¬ kIn wh 8) False (SQ_ofOrder M x wh) M)) := by
  obtain ⟨⟨hm, hfc, tb, fl, fw, fh, fr, hT⟩, hlr, ho, hN, hX, hem, ⟨fo, h90⟩, fd, h91⟩ := id h0
  refine V_ofOrder G N3 h0 (c_qofOrder G hm ho x wh ) (fun v ad' ct1 hp => ?_) (fun E h => h)
  obtain ⟨i, wk, c1, c2, c3, c4, rfl, rfl, rfl⟩ := hp
  exact ⟨_, M, rfl, ⟨h0.1, kFr.rf⟩, ho, rfl, rfl, i, wk, c1, c2, c3, c4, rfl⟩
set_option maxHeartbeats 1000000 in
theorem R_ofOrder {l : Launch} {D : va_G} {cy : Nat → ClassId} {sad : Nat → Nat} {em : Nat} {s0 : State} {a0 : Array Value} (G : kG kSTR l D cy sad em s0 a0) {nb : Nat} {M : tM} (ho : okM M) (hN : okN nb M) (hX : okX M) (hnb : nb ≤ 512) (x wh : Int32) (adC : Nat → Nat) (ctC : Nat → Option va_E) (hlR : lR cy adC ctC M) (hem : adC 0 = em) : KM l yX11_ofOrder [.code yX11_ofOrder prog_10_method_42_code 3 (some .int)] 5 160 2 12 [.ref (adC 100), .int x, .int wh] D s0 adC ctC (oRi cy adC ctC (spG (¬ kIn x (mO M)) (kIn x (mO M) ∧ ¬ kIn wh 8) False (SQ_ofOrder M x wh) M)) := by
  obtain ⟨⟨th, sm, hm0⟩, hL0, hF, h198⟩ := id hlR
  refine KM.mono (r_qofOrder G hm0 hL0 ho hlR.hfr   x wh) (fun v ad' ct' hp => ?_)
  obtain ⟨b, th', rfl, rfl, h1, hk, hc⟩ := hp
  rcases hc with ⟨f, rfl⟩ | ⟨f1, f2, rfl⟩ | ⟨i, wk, c1, c2, c3, c4, rfl, rfl⟩
  · exact oRi_no hlR h1 hk (Or.inl ⟨f, rfl⟩)
  · exact oRi_no hlR h1 hk (Or.inr (Or.inl ⟨⟨f1, f2⟩, rfl⟩))
  · exact oRi_yes h1 (hlR.th h1 hk) (fun j hj => ⟨rfl, hk j (by omega)⟩) rfl ⟨rfl, i, wk, c1, c2, c3, c4, rfl⟩
theorem U_ofOrder {nb : Nat} {M : tM} (hv : okM M ∧ okN (nb + 1) M ∧ okX M) (x wh : Int32) : spOk nb (spG (¬ kIn x (mO M)) (kIn x (mO M) ∧ ¬ kIn wh 8) False (SQ_ofOrder M x wh) M) := by
  have hb := hv.1.1
  refine spG_ok (fun f g => f g.1) (fun _ z => z.elim) (fun _ z => z.elim) (fun f a M' ⟨_, q1, q2, c1, c2, c3, c4, _⟩ => f ⟨q1, c1, c2⟩) (fun f a M' ⟨_, q1, q2, c1, c2, c3, c4, _⟩ => f.2 ⟨q2, c3, c4⟩) (fun f _ _ _ => f.elim) ?_ hv (fun a M1 h => by obtain ⟨rfl, -⟩ := h; exact hv)
  rintro a M1 b M2 ⟨rfl, i, wk, c1, c2, c3, c4, rfl⟩ ⟨rfl, i2, wk2, d1, d2, d3, d4, rfl⟩
  obtain rfl := nI_inj (c2.symm.trans d2) (by omega) (by omega)
  obtain rfl := nI_inj (c4.symm.trans d4) (by omega) (by omega)
  exact ⟨rfl, rfl⟩
def SQ_tight (M : tM) (x y : Int32) : UInt64 → tM → Prop := fun a M' => M' = M ∧ ∃ (i : Nat), i < mO M ∧ x = nI i ∧ a = fTgt M i (decide (¬ y = 0))
set_option maxHeartbeats 1000000 in
theorem C_tight {l : Launch} {D : va_G} {cy : Nat → ClassId} {sad : Nat → Nat} {em : Nat} {s0 : State} {a0 : Array Value} (G : kG kSTR l D cy sad em s0 a0) (N3 : kN3 s0) {nb : Nat} {M : tM} {ad : Nat → Nat} {ct : Nat → Option va_E} (h0 : lI cy em nb M ad ct) (hnb : nb ≤ 512) (x y : Int32) : KM l yL_tight [.codeWith yL_tight method_19_code 5 (some .int) [(0, 9, 12, 21)]] 8 142 2 12 [.ref (ad 1), .int x, .int (fBo y), .ref (ad 91)] D s0 ad ct (oCd cy ad M (spG (¬ kIn x (mO M)) (False) False (SQ_tight M x y) M)) := by
  obtain ⟨⟨hm, hfc, tb, fl, fw, fh, fr, hT⟩, hlr, ho, hN, hX, hem, ⟨fo, h90⟩, fd, h91⟩ := id h0
  refine V_tight G N3 h0 ((by rw [fBo_bt]; exact c_qtight G hm ho x hN (decide (¬ y = 0)))) (fun v ad' ct1 hp => ?_) (fun E h => h)
  obtain ⟨i, c1, c2, rfl, rfl, rfl⟩ := hp
  exact ⟨_, M, rfl, ⟨h0.1, kFr.rf⟩, ho, rfl, rfl, i, c1, c2, rfl⟩
set_option maxHeartbeats 1000000 in
theorem R_tight {l : Launch} {D : va_G} {cy : Nat → ClassId} {sad : Nat → Nat} {em : Nat} {s0 : State} {a0 : Array Value} (G : kG kSTR l D cy sad em s0 a0) {nb : Nat} {M : tM} (ho : okM M) (hN : okN nb M) (hX : okX M) (hnb : nb ≤ 512) (x y : Int32) (adC : Nat → Nat) (ctC : Nat → Option va_E) (hlR : lR cy adC ctC M) (hem : adC 0 = em) : KM l yX11_tight [.code yX11_tight prog_10_method_43_code 3 (some .double)] 7 240 0 0 [.ref (adC 100), .int x, .int (fBo y)] D s0 adC ctC (oRd cy adC ctC (spG (¬ kIn x (mO M)) (False) False (SQ_tight M x y) M)) := by
  obtain ⟨⟨th, sm, hm0⟩, hL0, hF, h198⟩ := id hlR
  refine KM.mono ((by rw [fBo_bt]; exact r_qtight G hm0 hL0 ho hlR.hfr hN x (decide (¬ y = 0)))) (fun v ad' ct' hp => ?_)
  obtain ⟨b, th', rfl, rfl, h1, hk, hc⟩ := hp
  rcases hc with ⟨f, rfl⟩ | ⟨i, c1, c2, rfl, rfl⟩
  · exact oRd_no hlR h1 hk (Or.inl ⟨f, rfl⟩)
  · exact oRd_yes h1 (hlR.th h1 hk) (fun j hj => ⟨rfl, hk j (by omega)⟩) rfl ⟨rfl, i, c1, c2, rfl⟩
theorem U_tight {nb : Nat} {M : tM} (hv : okM M ∧ okN (nb + 1) M ∧ okX M) (x y : Int32) : spOk nb (spG (¬ kIn x (mO M)) (False) False (SQ_tight M x y) M) := by
  have hb := hv.1.1
  refine spG_ok (fun _ z => z.elim) (fun _ z => z.elim) (fun _ z => z.elim) (fun f a M' ⟨_, q1, c1, c2, _⟩ => f ⟨q1, c1, c2⟩) (fun f _ _ _ => f.elim) (fun f _ _ _ => f.elim) ?_ hv (fun a M1 h => by obtain ⟨rfl, -⟩ := h; exact hv)
  rintro a M1 b M2 ⟨rfl, i, c1, c2, rfl⟩ ⟨rfl, i2, d1, d2, rfl⟩
  obtain rfl := nI_inj (c2.symm.trans d2) (by omega) (by omega)
  exact ⟨rfl, rfl⟩
def SQ_ready (M : tM) (x : Int32) : UInt64 → tM → Prop := fun a M' => M' = M ∧ ∃ (i : Nat), i < mO M ∧ x = nI i ∧ a = oReady (mod M i)
set_option maxHeartbeats 1000000 in
theorem C_ready {l : Launch} {D : va_G} {cy : Nat → ClassId} {sad : Nat → Nat} {em : Nat} {s0 : State} {a0 : Array Value} (G : kG kSTR l D cy sad em s0 a0) (N3 : kN3 s0) {nb : Nat} {M : tM} {ad : Nat → Nat} {ct : Nat → Option va_E} (h0 : lI cy em nb M ad ct) (hnb : nb ≤ 512) (x : Int32) : KM l yL_ready [.codeWith yL_ready method_20_code 4 (some .int) [(0, 8, 11, 21)]] 8 141 2 12 [.ref (ad 1), .int x, .ref (ad 91)] D s0 ad ct (oCd cy ad M (spG (¬ kIn x (mO M)) (False) False (SQ_ready M x) M)) := by
  obtain ⟨⟨hm, hfc, tb, fl, fw, fh, fr, hT⟩, hlr, ho, hN, hX, hem, ⟨fo, h90⟩, fd, h91⟩ := id h0
  refine V_ready G N3 h0 (c_qready G hm ho x ) (fun v ad' ct1 hp => ?_) (fun E h => h)
  obtain ⟨i, c1, c2, rfl, rfl, rfl⟩ := hp
  exact ⟨_, M, rfl, ⟨h0.1, kFr.rf⟩, ho, rfl, rfl, i, c1, c2, rfl⟩
set_option maxHeartbeats 1000000 in
theorem R_ready {l : Launch} {D : va_G} {cy : Nat → ClassId} {sad : Nat → Nat} {em : Nat} {s0 : State} {a0 : Array Value} (G : kG kSTR l D cy sad em s0 a0) {nb : Nat} {M : tM} (ho : okM M) (hN : okN nb M) (hX : okX M) (hnb : nb ≤ 512) (x : Int32) (adC : Nat → Nat) (ctC : Nat → Option va_E) (hlR : lR cy adC ctC M) (hem : adC 0 = em) : KM l yX11_ready [.code yX11_ready prog_10_method_44_code 2 (some .double)] 4 120 0 0 [.ref (adC 100), .int x] D s0 adC ctC (oRd cy adC ctC (spG (¬ kIn x (mO M)) (False) False (SQ_ready M x) M)) := by
  obtain ⟨⟨th, sm, hm0⟩, hL0, hF, h198⟩ := id hlR
  refine KM.mono (r_qready G hm0 hL0 ho hlR.hfr   x) (fun v ad' ct' hp => ?_)
  obtain ⟨b, th', rfl, rfl, h1, hk, hc⟩ := hp
  rcases hc with ⟨f, rfl⟩ | ⟨i, c1, c2, rfl, rfl⟩
  · exact oRd_no hlR h1 hk (Or.inl ⟨f, rfl⟩)
  · exact oRd_yes h1 (hlR.th h1 hk) (fun j hj => ⟨rfl, hk j (by omega)⟩) rfl ⟨rfl, i, c1, c2, rfl⟩
theorem U_ready {nb : Nat} {M : tM} (hv : okM M ∧ okN (nb + 1) M ∧ okX M) (x : Int32) : spOk nb (spG (¬ kIn x (mO M)) (False) False (SQ_ready M x) M) := by
  have hb := hv.1.1
  refine spG_ok (fun _ z => z.elim) (fun _ z => z.elim) (fun _ z => z.elim) (fun f a M' ⟨_, q1, c1, c2, _⟩ => f ⟨q1, c1, c2⟩) (fun f _ _ _ => f.elim) (fun f _ _ _ => f.elim) ?_ hv (fun a M1 h => by obtain ⟨rfl, -⟩ := h; exact hv)
  rintro a M1 b M2 ⟨rfl, i, c1, c2, rfl⟩ ⟨rfl, i2, d1, d2, rfl⟩
  obtain rfl := nI_inj (c2.symm.trans d2) (by omega) (by omega)
  exact ⟨rfl, rfl⟩
def SQ_free (M : tM) (x : Int32) : UInt64 → tM → Prop := fun a M' => M' = M ∧ ∃ (i : Nat), i < mH M ∧ x = nI i ∧ a = (mha M i).2
set_option maxHeartbeats 1000000 in
theorem C_free {l : Launch} {D : va_G} {cy : Nat → ClassId} {sad : Nat → Nat} {em : Nat} {s0 : State} {a0 : Array Value} (G : kG kSTR l D cy sad em s0 a0) (N3 : kN3 s0) {nb : Nat} {M : tM} {ad : Nat → Nat} {ct : Nat → Option va_E} (h0 : lI cy em nb M ad ct) (hnb : nb ≤ 512) (x : Int32) : KM l yL_free [.codeWith yL_free method_21_code 4 (some .int) [(0, 8, 11, 21)]] 8 141 2 12 [.ref (ad 1), .int x, .ref (ad 91)] D s0 ad ct (oCd cy ad M (spG (¬ kIn x (mH M)) (False) False (SQ_free M x) M)) := by
  obtain ⟨⟨hm, hfc, tb, fl, fw, fh, fr, hT⟩, hlr, ho, hN, hX, hem, ⟨fo, h90⟩, fd, h91⟩ := id h0
  refine V_free G N3 h0 (c_qfree G hm ho x ) (fun v ad' ct1 hp => ?_) (fun E h => h)
  obtain ⟨i, c1, c2, rfl, rfl, rfl⟩ := hp
  exact ⟨_, M, rfl, ⟨h0.1, kFr.rf⟩, ho, rfl, rfl, i, c1, c2, rfl⟩
set_option maxHeartbeats 1000000 in
theorem R_free {l : Launch} {D : va_G} {cy : Nat → ClassId} {sad : Nat → Nat} {em : Nat} {s0 : State} {a0 : Array Value} (G : kG kSTR l D cy sad em s0 a0) {nb : Nat} {M : tM} (ho : okM M) (hN : okN nb M) (hX : okX M) (hnb : nb ≤ 512) (x : Int32) (adC : Nat → Nat) (ctC : Nat → Option va_E) (hlR : lR cy adC ctC M) (hem : adC 0 = em) : KM l yX11_free [.code yX11_free prog_10_method_45_code 2 (some .double)] 4 120 0 0 [.ref (adC 100), .int x] D s0 adC ctC (oRd cy adC ctC (spG (¬ kIn x (mH M)) (False) False (SQ_free M x) M)) := by
  obtain ⟨⟨th, sm, hm0⟩, hL0, hF, h198⟩ := id hlR
  refine KM.mono (r_qfree G hm0 hL0 ho hlR.hfr   x) (fun v ad' ct' hp => ?_)
  obtain ⟨b, th', rfl, rfl, h1, hk, hc⟩ := hp
  rcases hc with ⟨f, rfl⟩ | ⟨i, c1, c2, rfl, rfl⟩
  · exact oRd_no hlR h1 hk (Or.inl ⟨f, rfl⟩)
  · exact oRd_yes h1 (hlR.th h1 hk) (fun j hj => ⟨rfl, hk j (by omega)⟩) rfl ⟨rfl, i, c1, c2, rfl⟩
theorem U_free {nb : Nat} {M : tM} (hv : okM M ∧ okN (nb + 1) M ∧ okX M) (x : Int32) : spOk nb (spG (¬ kIn x (mH M)) (False) False (SQ_free M x) M) := by
  have hb := hv.1.1
  refine spG_ok (fun _ z => z.elim) (fun _ z => z.elim) (fun _ z => z.elim) (fun f a M' ⟨_, q1, c1, c2, _⟩ => f ⟨q1, c1, c2⟩) (fun f _ _ _ => f.elim) (fun f _ _ _ => f.elim) ?_ hv (fun a M1 h => by obtain ⟨rfl, -⟩ := h; exact hv)
  rintro a M1 b M2 ⟨rfl, i, c1, c2, rfl⟩ ⟨rfl, i2, d1, d2, rfl⟩
  obtain rfl := nI_inj (c2.symm.trans d2) (by omega) (by omega)
  exact ⟨rfl, rfl⟩
def SQ_many (M : tM) (x : Int32) : Int32 → tM → Prop := fun a M' => M' = M ∧ ∃ (wk : Nat), wk < 14 ∧ x = nI wk ∧ a = fMany M wk
set_option maxHeartbeats 1000000 in
theorem C_many {l : Launch} {D : va_G} {cy : Nat → ClassId} {sad : Nat → Nat} {em : Nat} {s0 : State} {a0 : Array Value} (G : kG kSTR l D cy sad em s0 a0) (N3 : kN3 s0) {nb : Nat} {M : tM} {ad : Nat → Nat} {ct : Nat → Option va_E} (h0 : lI cy em nb M ad ct) (hnb : nb ≤ 512) (x : Int32) : KM l yL_many [.codeWith yL_many method_22_code 4 (some .int) [(0, 9, 12, 13)]] 8 141 2 12 [.ref (ad 1), .int x, .ref (ad 90)] D s0 ad ct (oCi cy ad M (spG (¬ kIn x 14) (False) False (SQ_many M x) M)) := by
  obtain ⟨⟨hm, hfc, tb, fl, fw, fh, fr, hT⟩, hlr, ho, hN, hX, hem, ⟨fo, h90⟩, fd, h91⟩ := id h0
  refine V_many G N3 h0 (c_qmany G hm ho x ) (fun v ad' ct1 hp => ?_) (fun E h => h)
  obtain ⟨wk, c1, c2, rfl, rfl, rfl⟩ := hp
  exact ⟨_, M, rfl, ⟨h0.1, kFr.rf⟩, ho, rfl, rfl, wk, c1, c2, rfl⟩
set_option maxHeartbeats 1000000 in
theorem R_many {l : Launch} {D : va_G} {cy : Nat → ClassId} {sad : Nat → Nat} {em : Nat} {s0 : State} {a0 : Array Value} (G : kG kSTR l D cy sad em s0 a0) {nb : Nat} {M : tM} (ho : okM M) (hN : okN nb M) (hX : okX M) (hnb : nb ≤ 512) (x : Int32) (adC : Nat → Nat) (ctC : Nat → Option va_E) (hlR : lR cy adC ctC M) (hem : adC 0 = em) : KM l yX11_many [.code yX11_many prog_10_method_48_code 2 (some .int)] 5 160 2 18 [.ref (adC 100), .int x] D s0 adC ctC (oRi cy adC ctC (spG (¬ kIn x 14) (False) False (SQ_many M x) M)) := by
  obtain ⟨⟨th, sm, hm0⟩, hL0, hF, h198⟩ := id hlR
  refine KM.mono (r_qmany G hm0 hL0 ho hlR.hfr   x) (fun v ad' ct' hp => ?_)
  obtain ⟨b, th', rfl, rfl, h1, hk, hc⟩ := hp
  rcases hc with ⟨f, rfl⟩ | ⟨wk, c1, c2, rfl, rfl⟩
  · exact oRi_no hlR h1 hk (Or.inl ⟨f, rfl⟩)
  · exact oRi_yes h1 (hlR.th h1 hk) (fun j hj => ⟨rfl, hk j (by omega)⟩) rfl ⟨rfl, wk, c1, c2, rfl⟩
theorem U_many {nb : Nat} {M : tM} (hv : okM M ∧ okN (nb + 1) M ∧ okX M) (x : Int32) : spOk nb (spG (¬ kIn x 14) (False) False (SQ_many M x) M) := by
  have hb := hv.1.1
  refine spG_ok (fun _ z => z.elim) (fun _ z => z.elim) (fun _ z => z.elim) (fun f a M' ⟨_, q1, c1, c2, _⟩ => f ⟨q1, c1, c2⟩) (fun f _ _ _ => f.elim) (fun f _ _ _ => f.elim) ?_ hv (fun a M1 h => by obtain ⟨rfl, -⟩ := h; exact hv)
  rintro a M1 b M2 ⟨rfl, wk, c1, c2, rfl⟩ ⟨rfl, wk2, d1, d2, rfl⟩
  obtain rfl := nI_inj (c2.symm.trans d2) (by omega) (by omega)
  exact ⟨rfl, rfl⟩
def SQ_lay (M : tM) (x xo xc wh : Int32) : UInt64 → tM → Prop := fun a M' => M' = M ∧ ∃ (i : Nat) (o : Option Nat) (jc wk : Nat), i < mO M ∧ x = nI i ∧ kOth xo (mO M) o ∧ jc < mC M ∧ xc = nI jc ∧ ¬ x = xo ∧ wk < 4 ∧ wh = nI wk ∧ a = fLayV M i o jc wk
set_option maxHeartbeats 1000000 in
theorem C_lay {l : Launch} {D : va_G} {cy : Nat → ClassId} {sad : Nat → Nat} {em : Nat} {s0 : State} {a0 : Array Value} (G : kG kSTR l D cy sad em s0 a0) (N3 : kN3 s0) {nb : Nat} {M : tM} {ad : Nat → Nat} {ct : Nat → Option va_E} (h0 : lI cy em nb M ad ct) (hnb : nb ≤ 512) (x xo xc wh : Int32) : KM l yL_lay [.codeWith yL_lay method_23_code 7 (some .int) [(0, 13, 16, 21), (0, 13, 20, 13)]] 9 177 5 30 [.ref (ad 1), .int x, .int xo, .int xc, .int wh, .ref (ad 91)] D s0 ad ct (oCd cy ad M (spG (¬ kIn x (mO M) ∨ (¬ xo = -1 ∧ ¬ kIn xo (mO M)) ∨ ¬ kIn xc (mC M)) (kIn x (mO M) ∧ (xo = -1 ∨ kIn xo (mO M)) ∧ kIn xc (mC M) ∧ (x = xo ∨ ¬ kIn wh 4)) False (SQ_lay M x xo xc wh) M)) := by
  obtain ⟨⟨hm, hfc, tb, fl, fw, fh, fr, hT⟩, hlr, ho, hN, hX, hem, ⟨fo, h90⟩, fd, h91⟩ := id h0
  refine V_lay G N3 h0 (c_qlay G hm ho x xo xc wh hT hN) (fun v ad' ct1 hp => ?_) (fun E h => h)
  obtain ⟨i, o, jc, wk, c1, c2, c3, c4, c5, c6, c7, c8, rfl, rfl, hk, hT2⟩ := hp
  exact ⟨_, M, rfl, ⟨h0.1.out ho hk hT2, fun j hj => ⟨rfl, hk j (by omega)⟩⟩, ho, rfl, rfl, i, o, jc, wk, c1, c2, c3, c4, c5, c6, c7, c8, rfl⟩
set_option maxHeartbeats 1000000 in
theorem R_lay {l : Launch} {D : va_G} {cy : Nat → ClassId} {sad : Nat → Nat} {em : Nat} {s0 : State} {a0 : Array Value} (G : kG kSTR l D cy sad em s0 a0) {nb : Nat} {M : tM} (ho : okM M) (hN : okN nb M) (hX : okX M) (hnb : nb ≤ 512) (x xo xc wh : Int32) (adC : Nat → Nat) (ctC : Nat → Option va_E) (hlR : lR cy adC ctC M) (hem : adC 0 = em) : KM l yX11_lay_ [.code yX11_lay_ prog_10_method_50_code 5 (some .double)] 9 1580 10 183 [.ref (adC 100), .int x, .int xo, .int xc, .int wh] D s0 adC ctC (oRd cy adC ctC (spG (¬ kIn x (mO M) ∨ (¬ xo = -1 ∧ ¬ kIn xo (mO M)) ∨ ¬ kIn xc (mC M)) (kIn x (mO M) ∧ (xo = -1 ∨ kIn xo (mO M)) ∧ kIn xc (mC M) ∧ (x = xo ∨ ¬ kIn wh 4)) False (SQ_lay M x xo xc wh) M)) := by
  obtain ⟨⟨th, sm, hm0⟩, hL0, hF, h198⟩ := id hlR
  refine KM.mono (r_qlay G hm0 hL0 ho hlR.hfr hN  x xo xc wh) (fun v ad' ct' hp => ?_)
  obtain ⟨b, th', rfl, rfl, h1, hk, hc⟩ := hp
  rcases hc with ⟨f, rfl⟩ | ⟨f1, f2, f3, f4, rfl⟩ | ⟨i, o, jc, wk, c1, c2, c3, c4, c5, c6, c7, c8, rfl, rfl⟩
  · exact oRd_no hlR h1 hk (Or.inl ⟨f, rfl⟩)
  · exact oRd_no hlR h1 hk (Or.inr (Or.inl ⟨⟨f1, f2, f3, f4⟩, rfl⟩))
  · exact oRd_yes h1 (hlR.th h1 hk) (fun j hj => ⟨rfl, hk j (by omega)⟩) rfl ⟨rfl, i, o, jc, wk, c1, c2, c3, c4, c5, c6, c7, c8, rfl⟩
theorem U_lay {nb : Nat} {M : tM} (hv : okM M ∧ okN (nb + 1) M ∧ okX M) (x xo xc wh : Int32) : spOk nb (spG (¬ kIn x (mO M) ∨ (¬ xo = -1 ∧ ¬ kIn xo (mO M)) ∨ ¬ kIn xc (mC M)) (kIn x (mO M) ∧ (xo = -1 ∨ kIn xo (mO M)) ∧ kIn xc (mC M) ∧ (x = xo ∨ ¬ kIn wh 4)) False (SQ_lay M x xo xc wh) M) := by
  have hb := hv.1.1
  refine spG_ok (fun f g => f.elim (fun z => z g.1) (fun z => z.elim (fun z => g.2.1.elim z.1 z.2) (fun z => z g.2.2.1))) (fun _ z => z.elim) (fun _ z => z.elim) (fun f a M' ⟨_, q1, q2, q3, q4, c1, c2, c3, c4, c5, c6, c7, c8, _⟩ => f.elim (fun z => z ⟨q1, c1, c2⟩) (fun z => z.elim (fun z => c3.elim (fun w => z.1 w.1) (fun ⟨i2, g1, g2, _⟩ => z.2 ⟨i2, g1, g2⟩)) (fun z => z ⟨q3, c4, c5⟩))) (fun f a M' ⟨_, q1, q2, q3, q4, c1, c2, c3, c4, c5, c6, c7, c8, _⟩ => f.2.2.2.elim c6 (fun z => z ⟨q4, c7, c8⟩)) (fun f _ _ _ => f.elim) ?_ hv (fun a M1 h => by obtain ⟨rfl, -⟩ := h; exact hv)
  rintro a M1 b M2 ⟨rfl, i, o, jc, wk, c1, c2, c3, c4, c5, c6, c7, c8, rfl⟩ ⟨rfl, i2, o2, jc2, wk2, d1, d2, d3, d4, d5, d6, d7, d8, rfl⟩
  obtain rfl := nI_inj (c2.symm.trans d2) (by omega) (by omega)
  obtain rfl := nI_inj (c5.symm.trans d5) (by omega) (by omega)
  obtain rfl := nI_inj (c8.symm.trans d8) (by omega) (by omega)
  obtain rfl := kOth_inj c3 d3 (by omega)
  exact ⟨rfl, rfl⟩
def SQ_best (M : tM) (x : Int32) : Int32 → tM → Prop := fun a M' => M' = M ∧ ∃ (i : Nat), i < mO M ∧ x = nI i ∧ a = fBs M i (mC M) 0 (-1) cD0
set_option maxHeartbeats 1000000 in
theorem C_best {l : Launch} {D : va_G} {cy : Nat → ClassId} {sad : Nat → Nat} {em : Nat} {s0 : State} {a0 : Array Value} (G : kG kSTR l D cy sad em s0 a0) (N3 : kN3 s0) {nb : Nat} {M : tM} {ad : Nat → Nat} {ct : Nat → Option va_E} (h0 : lI cy em nb M ad ct) (hnb : nb ≤ 512) (x : Int32) : KM l yL_best [.codeWith yL_best method_24_code 4 (some .int) [(0, 9, 12, 21)]] 8 149 2 12 [.ref (ad 1), .int x, .ref (ad 90)] D s0 ad ct (oCi cy ad M (spG (¬ kIn x (mO M)) (False) False (SQ_best M x) M)) := by
  obtain ⟨⟨hm, hfc, tb, fl, fw, fh, fr, hT⟩, hlr, ho, hN, hX, hem, ⟨fo, h90⟩, fd, h91⟩ := id h0
  refine V_best G N3 h0 (c_qbest G hm ho x hT hN) (fun v ad' ct1 hp => ?_) (fun E h => h)
  obtain ⟨i, c1, c2, rfl, rfl, hk, hT2⟩ := hp
  exact ⟨_, M, rfl, ⟨h0.1.out ho hk hT2, fun j hj => ⟨rfl, hk j (by omega)⟩⟩, ho, rfl, rfl, i, c1, c2, rfl⟩
set_option maxHeartbeats 1000000 in
theorem R_best {l : Launch} {D : va_G} {cy : Nat → ClassId} {sad : Nat → Nat} {em : Nat} {s0 : State} {a0 : Array Value} (G : kG kSTR l D cy sad em s0 a0) {nb : Nat} {M : tM} (ho : okM M) (hN : okN nb M) (hX : okX M) (hnb : nb ≤ 512) (x : Int32) (adC : Nat → Nat) (ctC : Nat → Option va_E) (hlR : lR cy adC ctC M) (hem : adC 0 = em) : KM l yX11_best [.code yX11_best prog_10_method_52_code 2 (some .int)] 10 1610 40 732 [.ref (adC 100), .int x] D s0 adC ctC (oRi cy adC ctC (spG (¬ kIn x (mO M)) (False) False (SQ_best M x) M)) := by
  obtain ⟨⟨th, sm, hm0⟩, hL0, hF, h198⟩ := id hlR
  refine KM.mono (r_qbest G hm0 hL0 ho hlR.hfr hN  x) (fun v ad' ct' hp => ?_)
  obtain ⟨b, th', rfl, rfl, h1, hk, hc⟩ := hp
  rcases hc with ⟨f, rfl⟩ | ⟨i, c1, c2, rfl, rfl⟩
  · exact oRi_no hlR h1 hk (Or.inl ⟨f, rfl⟩)
  · exact oRi_yes h1 (hlR.th h1 hk) (fun j hj => ⟨rfl, hk j (by omega)⟩) rfl ⟨rfl, i, c1, c2, rfl⟩
theorem U_best {nb : Nat} {M : tM} (hv : okM M ∧ okN (nb + 1) M ∧ okX M) (x : Int32) : spOk nb (spG (¬ kIn x (mO M)) (False) False (SQ_best M x) M) := by
  have hb := hv.1.1
  refine spG_ok (fun _ z => z.elim) (fun _ z => z.elim) (fun _ z => z.elim) (fun f a M' ⟨_, q1, c1, c2, _⟩ => f ⟨q1, c1, c2⟩) (fun f _ _ _ => f.elim) (fun f _ _ _ => f.elim) ?_ hv (fun a M1 h => by obtain ⟨rfl, -⟩ := h; exact hv)
  rintro a M1 b M2 ⟨rfl, i, c1, c2, rfl⟩ ⟨rfl, i2, d1, d2, rfl⟩
  obtain rfl := nI_inj (c2.symm.trans d2) (by omega) (by omega)
  exact ⟨rfl, rfl⟩
def SQ_mate (M : tM) (x xc : Int32) : Int32 → tM → Prop := fun a M' => M' = M ∧ ∃ (i jc : Nat), i < mO M ∧ x = nI i ∧ jc < mC M ∧ xc = nI jc ∧ a = fMt M i jc (mO M) 0 (-1) cD0
set_option maxHeartbeats 1000000 in
theorem C_mate {l : Launch} {D : va_G} {cy : Nat → ClassId} {sad : Nat → Nat} {em : Nat} {s0 : State} {a0 : Array Value} (G : kG kSTR l D cy sad em s0 a0) (N3 : kN3 s0) {nb : Nat} {M : tM} {ad : Nat → Nat} {ct : Nat → Option va_E} (h0 : lI cy em nb M ad ct) (hnb : nb ≤ 512) (x xc : Int32) : KM l yL_mate [.codeWith yL_mate method_25_code 5 (some .int) [(0, 10, 13, 21)]] 8 180 3 18 [.ref (ad 1), .int x, .int xc, .ref (ad 90)] D s0 ad ct (oCi cy ad M (spG (¬ kIn x (mO M) ∨ ¬ kIn xc (mC M)) (False) False (SQ_mate M x xc) M)) := by
  obtain ⟨⟨hm, hfc, tb, fl, fw, fh, fr, hT⟩, hlr, ho, hN, hX, hem, ⟨fo, h90⟩, fd, h91⟩ := id h0
  refine V_mate G N3 h0 (c_qmate G hm ho x xc hT hN) (fun v ad' ct1 hp => ?_) (fun E h => h)
  obtain ⟨i, jc, c1, c2, c3, c4, rfl, rfl, hk, hT2⟩ := hp
  exact ⟨_, M, rfl, ⟨h0.1.out ho hk hT2, fun j hj => ⟨rfl, hk j (by omega)⟩⟩, ho, rfl, rfl, i, jc, c1, c2, c3, c4, rfl⟩
set_option maxHeartbeats 1000000 in
theorem R_mate {l : Launch} {D : va_G} {cy : Nat → ClassId} {sad : Nat → Nat} {em : Nat} {s0 : State} {a0 : Array Value} (G : kG kSTR l D cy sad em s0 a0) {nb : Nat} {M : tM} (ho : okM M) (hN : okN nb M) (hX : okX M) (hnb : nb ≤ 512) (x xc : Int32) (adC : Nat → Nat) (ctC : Nat → Option va_E) (hlR : lR cy adC ctC M) (hem : adC 0 = em) : KM l yX11_mate [.code yX11_mate prog_10_method_53_code 14 (some .int)] 9 1580 170 3111 [.ref (adC 100), .int x, .int xc] D s0 adC ctC (oRi cy adC ctC (spG (¬ kIn x (mO M) ∨ ¬ kIn xc (mC M)) (False) False (SQ_mate M x xc) M)) := by
  obtain ⟨⟨th, sm, hm0⟩, hL0, hF, h198⟩ := id hlR
  refine KM.mono (r_qmate G hm0 hL0 ho hlR.hfr hN  x xc) (fun v ad' ct' hp => ?_)
  obtain ⟨b, th', rfl, rfl, h1, hk, hc⟩ := hp
  rcases hc with ⟨f, rfl⟩ | ⟨i, jc, c1, c2, c3, c4, rfl, rfl⟩
  · exact oRi_no hlR h1 hk (Or.inl ⟨f, rfl⟩)
  · exact oRi_yes h1 (hlR.th h1 hk) (fun j hj => ⟨rfl, hk j (by omega)⟩) rfl ⟨rfl, i, jc, c1, c2, c3, c4, rfl⟩
theorem U_mate {nb : Nat} {M : tM} (hv : okM M ∧ okN (nb + 1) M ∧ okX M) (x xc : Int32) : spOk nb (spG (¬ kIn x (mO M) ∨ ¬ kIn xc (mC M)) (False) False (SQ_mate M x xc) M) := by
  have hb := hv.1.1
  refine spG_ok (fun _ z => z.elim) (fun _ z => z.elim) (fun _ z => z.elim) (fun f a M' ⟨_, q1, q2, c1, c2, c3, c4, _⟩ => f.elim (fun z => z ⟨q1, c1, c2⟩) (fun z => z ⟨q2, c3, c4⟩)) (fun f _ _ _ => f.elim) (fun f _ _ _ => f.elim) ?_ hv (fun a M1 h => by obtain ⟨rfl, -⟩ := h; exact hv)
  rintro a M1 b M2 ⟨rfl, i, jc, c1, c2, c3, c4, rfl⟩ ⟨rfl, i2, jc2, d1, d2, d3, d4, rfl⟩
  obtain rfl := nI_inj (c2.symm.trans d2) (by omega) (by omega)
  obtain rfl := nI_inj (c4.symm.trans d4) (by omega) (by omega)
  exact ⟨rfl, rfl⟩
def SQ_soonest (M : tM) (x : Int32) : Int32 → tM → Prop := fun a M' => M' = M ∧ ∃ (i : Nat), i < mO M ∧ x = nI i ∧ a = fSn M i (mH M) 0 (-1) cD0
set_option maxHeartbeats 1000000 in
theorem C_soonest {l : Launch} {D : va_G} {cy : Nat → ClassId} {sad : Nat → Nat} {em : Nat} {s0 : State} {a0 : Array Value} (G : kG kSTR l D cy sad em s0 a0) (N3 : kN3 s0) {nb : Nat} {M : tM} {ad : Nat → Nat} {ct : Nat → Option va_E} (h0 : lI cy em nb M ad ct) (hnb : nb ≤ 512) (x : Int32) : KM l yL_soonest [.codeWith yL_soonest method_26_code 4 (some .int) [(0, 9, 12, 21)]] 8 148 2 12 [.ref (ad 1), .int x, .ref (ad 90)] D s0 ad ct (oCi cy ad M (spG (¬ kIn x (mO M)) (False) False (SQ_soonest M x) M)) := by
  obtain ⟨⟨hm, hfc, tb, fl, fw, fh, fr, hT⟩, hlr, ho, hN, hX, hem, ⟨fo, h90⟩, fd, h91⟩ := id h0
  refine V_soonest G N3 h0 (c_qsoonest G hm ho x hN hnb) (fun v ad' ct1 hp => ?_) (fun E h => h)
  obtain ⟨i, c1, c2, rfl, rfl, rfl⟩ := hp
  exact ⟨_, M, rfl, ⟨h0.1, kFr.rf⟩, ho, rfl, rfl, i, c1, c2, rfl⟩
set_option maxHeartbeats 1000000 in
theorem R_soonest {l : Launch} {D : va_G} {cy : Nat → ClassId} {sad : Nat → Nat} {em : Nat} {s0 : State} {a0 : Array Value} (G : kG kSTR l D cy sad em s0 a0) {nb : Nat} {M : tM} (ho : okM M) (hN : okN nb M) (hX : okX M) (hnb : nb ≤ 512) (x : Int32) (adC : Nat → Nat) (ctC : Nat → Option va_E) (hlR : lR cy adC ctC M) (hem : adC 0 = em) : KM l yX11_soonest [.code yX11_soonest prog_10_method_55_code 2 (some .int)] 8 240 6 24 [.ref (adC 100), .int x] D s0 adC ctC (oRi cy adC ctC (spG (¬ kIn x (mO M)) (False) False (SQ_soonest M x) M)) := by
  obtain ⟨⟨th, sm, hm0⟩, hL0, hF, h198⟩ := id hlR
  refine KM.mono (r_qsoonest G hm0 hL0 ho hlR.hfr hN hnb x) (fun v ad' ct' hp => ?_)
  obtain ⟨b, th', rfl, rfl, h1, hk, hc⟩ := hp
  rcases hc with ⟨f, rfl⟩ | ⟨i, c1, c2, rfl, rfl⟩
  · exact oRi_no hlR h1 hk (Or.inl ⟨f, rfl⟩)
  · exact oRi_yes h1 (hlR.th h1 hk) (fun j hj => ⟨rfl, hk j (by omega)⟩) rfl ⟨rfl, i, c1, c2, rfl⟩
theorem U_soonest {nb : Nat} {M : tM} (hv : okM M ∧ okN (nb + 1) M ∧ okX M) (x : Int32) : spOk nb (spG (¬ kIn x (mO M)) (False) False (SQ_soonest M x) M) := by
  have hb := hv.1.1
  refine spG_ok (fun _ z => z.elim) (fun _ z => z.elim) (fun _ z => z.elim) (fun f a M' ⟨_, q1, c1, c2, _⟩ => f ⟨q1, c1, c2⟩) (fun f _ _ _ => f.elim) (fun f _ _ _ => f.elim) ?_ hv (fun a M1 h => by obtain ⟨rfl, -⟩ := h; exact hv)
  rintro a M1 b M2 ⟨rfl, i, c1, c2, rfl⟩ ⟨rfl, i2, d1, d2, rfl⟩
  obtain rfl := nI_inj (c2.symm.trans d2) (by omega) (by omega)
  exact ⟨rfl, rfl⟩
