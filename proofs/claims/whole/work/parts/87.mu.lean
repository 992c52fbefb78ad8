/-! the calls that change something: each side, and why they agree -/
theorem rng_no {a b w : Nat} (ha : a ≤ w) (hb : w ≤ b) (hc : b < 2 ^ 31) : ¬ (nI w < nI a ∨ nI b < nI w) := fun z => z.elim (fun z => absurd ((nI_ltI (by omega) (by omega)).mp z) (by omega)) (fun z => absurd ((nI_ltI (by omega) (by omega)).mp z) (by omega))
theorem fBo_01 (y : Int32) : fBo y = 0 ∨ fBo y = 1 := by
  unfold fBo
  split
  · exact Or.inl rfl
  · exact Or.inr rfl
theorem kOth_lt {x : Int32} {n : Nat} {o : Option Nat} (h : kOth x n o) : ∀ i2, o = some i2 → i2 < n := by
  rintro i2 rfl
  rcases h with ⟨-, e⟩ | ⟨j, hj, -, e⟩
  · exact absurd e (by simp)
  · cases e
    exact hj
section INVS
variable {nb : Nat} {M : tM}
theorem inv_cloth (ho : okM M) (hN : okN nb M) (hX : okX M) {np : Int32} (hnp : np = 0 ∨ np = 1) {w le sh st pr : Nat} (a1 : 60 ≤ w) (a2 : w ≤ 160) (b : le ≤ 3000) (d : sh ≤ 8) (e : st ≤ 20) (f1 : 1 ≤ pr) (f2 : pr ≤ 9) (h : mC M < 4) : okM (aCl M (FP.i2d (nI w), FP.i2d (nI le), sh, st, np, pr)) ∧ okN (nb + 1) (aCl M (FP.i2d (nI w), FP.i2d (nI le), sh, st, np, pr)) ∧ okX (aCl M (FP.i2d (nI w), FP.i2d (nI le), sh, st, np, pr)) :=
  ⟨okM_aCl ho h _ ⟨d, e, hnp, f1, f2⟩, okN_aCl (hN.mono (Nat.le_succ _)) _ ⟨(dP_i2d (by omega)).wk (by omega) (by omega), (dP_i2d (by omega)).wk (by omega) (by omega), fun _ => (dP_i2d (by omega)).wk (by omega) (by omega)⟩, okX_aCl hX _⟩
theorem inv_wash (ho : okM M) (hN : okN nb M) (hX : okX M) {jc : Nat} (h : jc < mC M) : okM (sCl M jc (fWash (mcl M jc))) ∧ okN (nb + 1) (sCl M jc (fWash (mcl M jc))) ∧ okX (sCl M jc (fWash (mcl M jc))) :=
  ⟨okM_sCl ho jc _ ⟨Nat.zero_le _, (ho.2.1 jc h).2⟩, okN_sCl (hN.mono (Nat.le_succ _)) _ (okCl_wash ho hN h), okX_sCl hX jc _ rfl⟩
theorem okMs_4 {w1 w2 w3 w4 : Nat} (h1 : 50 ≤ w1 ∧ w1 ≤ 200) (h2 : 50 ≤ w2 ∧ w2 ≤ 200) (h3 : 50 ≤ w3 ∧ w3 ≤ 200) (h4 : 50 ≤ w4 ∧ w4 ≤ 200) : okMs (fMs w1 w2 w3 w4) := by
  intro j
  unfold fMs
  split
  · exact h1
  · split
    · exact h2
    · split
      · exact h3
      · exact h4
theorem inv_person (ho : okM M) (hN : okN nb M) (hX : okX M) {w1 w2 w3 w4 : Nat} (h1 : 50 ≤ w1 ∧ w1 ≤ 200) (h2 : 50 ≤ w2 ∧ w2 ≤ 200) (h3 : 50 ≤ w3 ∧ w3 ≤ 200) (h4 : 50 ≤ w4 ∧ w4 ≤ 200) (h : mP M < 6) : okM (aPe M (fMs w1 w2 w3 w4)) ∧ okN (nb + 1) (aPe M (fMs w1 w2 w3 w4)) ∧ okX (aPe M (fMs w1 w2 w3 w4)) :=
  ⟨okM_aPe ho h _ (okMs_4 h1 h2 h3 h4), okN_aPe (hN.mono (Nat.le_succ _)) _, okX_aPe hX _⟩
theorem inv_measure (ho : okM M) (hN : okN nb M) (hX : okX M) {q j mv : Nat} (h : q < mP M) (h1 : 50 ≤ mv) (h2 : mv ≤ 200) : okM (sPe M q (vf_upd (mpe M q) j mv)) ∧ okN (nb + 1) (sPe M q (vf_upd (mpe M q) j mv)) ∧ okX (sPe M q (vf_upd (mpe M q) j mv)) :=
  ⟨okM_sPe ho q _ (fun k => by unfold vf_upd; split; exact ⟨h1, h2⟩; exact ho.2.2.1 q h k), okN_sPe (hN.mono (Nat.le_succ _)) _ _, okX_sPe hX _ _⟩
theorem inv_style (ho : okM M) (hN : okN nb M) (hX : okX M) (h : mS M < 3) : okM (aSt M zSt) ∧ okN (nb + 1) (aSt M zSt) ∧ okX (aSt M zSt) :=
  ⟨okM_aSt ho h, okN_aSt ho (hN.mono (Nat.le_succ _)) _, okX_aSt ho hX⟩
theorem inv_piece (ho : okM M) (hN : okN nb M) (hX : okX M) {i : Nat} (hi : i < mS M) (h : (mst M i).1 < 5) (h0 : (mst M i).2.2 = 0) {pc : tPc} (hp : okPc pc) : okM (sSt M i (zPc (mst M i) pc)) ∧ okN (nb + 1) (sSt M i (zPc (mst M i) pc)) ∧ okX (sSt M i (zPc (mst M i) pc)) :=
  ⟨okM_aPc ho h pc hp, okN_sSt (hN.mono (Nat.le_succ _)) _ (Or.inr ((hX.2.2 i hi).mp h0)), okX_sSt hX _ rfl⟩
theorem inv_hand (ho : okM M) (hN : okN nb M) (hX : okX M) {w : Nat} (h1 : 1 ≤ w) (h2 : w ≤ 16) (h : mH M < 3) : okM (aHa M (w, cD0)) ∧ okN (nb + 1) (aHa M (w, cD0)) ∧ okX (aHa M (w, cD0)) :=
  ⟨okM_aHa ho h _ ⟨h1, h2⟩, okN_aHa (hN.mono (Nat.le_succ _)) _ (dP_c0.wk (by omega) (by omega)), okX_aHa hX _⟩
theorem inv_pass (ho : okM M) (hN : okN nb M) (hX : okX M) {k : Nat} (h : k ≤ 100) : okM (sSh M (fSpend (mClk M) (FP.i2d (nI k)), M.2.1.2)) ∧ okN (nb + 1) (sSh M (fSpend (mClk M) (FP.i2d (nI k)), M.2.1.2)) ∧ okX (sSh M (fSpend (mClk M) (FP.i2d (nI k)), M.2.1.2)) :=
  ⟨okM_sSh ho _, okN_sSh (hN.mono (Nat.le_succ _)) _ (dP_spend hN.2.1 (dP_i2d (n := k) (by omega)) (by omega)), okX_sSh hX _ hX.1⟩
end INVS
def SM_cloth (M : tM) (x1 x2 x3 x4 y x6 : Int32) : Int32 → tM → Prop := fun a M' => ∃ (w le sh st pr : Nat), (60 ≤ w ∧ w ≤ 160 ∧ x1 = nI w) ∧ (le ≤ 3000 ∧ x2 = nI le) ∧ (sh ≤ 8 ∧ x3 = nI sh) ∧ (st ≤ 20 ∧ x4 = nI st) ∧ (1 ≤ pr ∧ pr ≤ 9 ∧ x6 = nI pr) ∧ mC M < 4 ∧ a = nI (mC M) ∧ M' = aCl M (FP.i2d (nI w), FP.i2d (nI le), sh, st, fBo y, pr)
set_option maxHeartbeats 1000000 in
theorem C_cloth {l : Launch} {D : va_G} {cy : Nat → ClassId} {sad : Nat → Nat} {em : Nat} {s0 : State} {a0 : Array Value} (G : kG kSTR l D cy sad em s0 a0) (N3 : kN3 s0) {nb : Nat} {M : tM} {ad : Nat → Nat} {ct : Nat → Option va_E} (h0 : lI cy em nb M ad ct) (hnb : nb ≤ 512) (x1 x2 x3 x4 y x6 : Int32) : KM l yL_cloth [.codeWith yL_cloth method_3_code 9 (some .int) [(0, 18, 21, 13), (0, 18, 25, 15)]] 7 116 2 12 [.ref (ad 1), .int x1, .int x2, .int x3, .int x4, .int (fBo y), .int x6, .ref (ad 90)] D s0 ad ct (oCi cy ad M (spG ((x1 < 60 ∨ 160 < x1) ∨ (x2 < 0 ∨ 3000 < x2) ∨ (x3 < 0 ∨ 8 < x3) ∨ (x4 < 0 ∨ 20 < x4) ∨ (x6 < 1 ∨ 9 < x6)) (¬ ((x1 < 60 ∨ 160 < x1) ∨ (x2 < 0 ∨ 3000 < x2) ∨ (x3 < 0 ∨ 8 < x3) ∨ (x4 < 0 ∨ 20 < x4) ∨ (x6 < 1 ∨ 9 < x6)) ∧ mC M = 4) (False) (SM_cloth M x1 x2 x3 x4 y x6) M)) := by
  obtain ⟨⟨hm, hfc, tb, fl, fw, fh, fr, hT⟩, hlr, ho, hN, hX, hem, ⟨fo, h90⟩, fd, h91⟩ := id h0
  have hb := ho.1
  refine V_cloth G N3 h0 (c_cloth G hm ho hfc x1 x2 x3 x4 (fBo y) x6 (fBo_01 y)) (fun v ad' ct1 hp => ?_) (fun E h => h)
  obtain ⟨w, le, sh, st, pr, c1, c2, c3, c4, c5, c6, rfl, had, hz, ha, hq, hr⟩ := hp
  exact ⟨_, aCl M (FP.i2d (nI w), FP.i2d (nI le), sh, st, fBo y, pr), rfl, bC_cloth h0.1 ho _ c6 had hz ha hq hr, (inv_cloth ho hN hX (fBo_01 y) c1.1 c1.2.1 c2.1 c3.1 c4.1 c5.1 c5.2.1 c6).1, had 1 (by omega), w, le, sh, st, pr, c1, c2, c3, c4, c5, c6, rfl, rfl⟩
set_option maxHeartbeats 1000000 in
theorem R_cloth {l : Launch} {D : va_G} {cy : Nat → ClassId} {sad : Nat → Nat} {em : Nat} {s0 : State} {a0 : Array Value} (G : kG kSTR l D cy sad em s0 a0) {nb : Nat} {M : tM} (ho : okM M) (hN : okN nb M) (hX : okX M) (hnb : nb ≤ 512) (x1 x2 x3 x4 y x6 : Int32) (adC : Nat → Nat) (ctC : Nat → Option va_E) (hlR : lR cy adC ctC M) (hem : adC 0 = em) : KM l yX11_cloth [.code yX11_cloth prog_10_method_6_code 8 (some .int)] 6 170 2 16 [.ref (adC 100), .int x1, .int x2, .int x3, .int x4, .int (fBo y), .int x6] D s0 adC ctC (oRi cy adC ctC (spG ((x1 < 60 ∨ 160 < x1) ∨ (x2 < 0 ∨ 3000 < x2) ∨ (x3 < 0 ∨ 8 < x3) ∨ (x4 < 0 ∨ 20 < x4) ∨ (x6 < 1 ∨ 9 < x6)) (¬ ((x1 < 60 ∨ 160 < x1) ∨ (x2 < 0 ∨ 3000 < x2) ∨ (x3 < 0 ∨ 8 < x3) ∨ (x4 < 0 ∨ 20 < x4) ∨ (x6 < 1 ∨ 9 < x6)) ∧ mC M = 4) (False) (SM_cloth M x1 x2 x3 x4 y x6) M)) := by
  obtain ⟨⟨th, sm, hm0⟩, hL0, hF, h198⟩ := id hlR
  have hb := ho.1
  refine KM.mono (r_cloth G hm0 hL0 ho hF hem x1 x2 x3 x4 (fBo y) x6 (fBo_01 y)) (fun v ad' ct' hp => ?_)
  obtain ⟨b, rfl, hc⟩ := hp
  rcases hc with ⟨rfl, hc⟩ | ⟨w, le, sh, st, pr, c1, c2, c3, c4, c5, c6, rfl, had, hl0, hl, h1, hs, hr⟩
  · rcases hc with ⟨f, h1, hk⟩ | ⟨f, h1, hk⟩
    · exact oRi_no hlR h1 hk (Or.inl ⟨f, rfl⟩)
    · exact oRi_no hlR h1 hk (Or.inr (Or.inl ⟨f, rfl⟩))
  · have hz := bR_cloth hlR ho _ c6 had hl h1 hs hr
    exact oRi_yes (MR := aCl M (FP.i2d (nI w), FP.i2d (nI le), sh, st, fBo y, pr)) (hs.trans (congrArg some (oMod_6 (M := M) (fun j a b => had j (by omega) (by omega))))) hz.1 hz.2 (had 100 (by omega) (by omega)) ⟨w, le, sh, st, pr, c1, c2, c3, c4, c5, c6, rfl, rfl⟩
theorem U_cloth {nb : Nat} {M : tM} (ho : okM M) (hN : okN nb M) (hX : okX M) (hnb : nb ≤ 512) (x1 x2 x3 x4 y x6 : Int32) : spOk nb (spG ((x1 < 60 ∨ 160 < x1) ∨ (x2 < 0 ∨ 3000 < x2) ∨ (x3 < 0 ∨ 8 < x3) ∨ (x4 < 0 ∨ 20 < x4) ∨ (x6 < 1 ∨ 9 < x6)) (¬ ((x1 < 60 ∨ 160 < x1) ∨ (x2 < 0 ∨ 3000 < x2) ∨ (x3 < 0 ∨ 8 < x3) ∨ (x4 < 0 ∨ 20 < x4) ∨ (x6 < 1 ∨ 9 < x6)) ∧ mC M = 4) (False) (SM_cloth M x1 x2 x3 x4 y x6) M) := by
  have hv : okM M ∧ okN (nb + 1) M ∧ okX M := ⟨ho, hN.mono (Nat.le_succ _), hX⟩
  have hb := ho.1
  refine spG_ok (fun f g => g.1 f) (fun _ z => z.elim) (fun _ z => z.elim) ?_ ?_ ?_ ?_ hv ?_
  · rintro f a M' ⟨w, le, sh, st, pr, ⟨a1, a2, rfl⟩, ⟨b2, rfl⟩, ⟨d2, rfl⟩, ⟨e2, rfl⟩, ⟨f1, f2, rfl⟩, c6, -, -⟩
    exact f.elim (rng_no (a := 60) (b := 160) a1 a2 (by decide)) (fun f => f.elim (rng_no (a := 0) (b := 3000) (Nat.zero_le _) b2 (by decide)) (fun f => f.elim (rng_no (a := 0) (b := 8) (Nat.zero_le _) d2 (by decide)) (fun f => f.elim (rng_no (a := 0) (b := 20) (Nat.zero_le _) e2 (by decide)) (rng_no (a := 1) (b := 9) f1 f2 (by decide)))))
  · rintro f a M' ⟨w, le, sh, st, pr, -, -, -, -, -, c6, -, -⟩
    have := f.2
    omega
  · exact fun f _ _ _ => f.elim
  · rintro a M1 b M2 ⟨w, le, sh, st, pr, c1, c2, c3, c4, c5, c6, rfl, rfl⟩ ⟨w_2, le_2, sh_2, st_2, pr_2, d1, d2, d3, d4, d5, d6, rfl, rfl⟩
    obtain rfl := nI_inj (c1.2.2.symm.trans d1.2.2) (by have := c1; have := d1; omega) (by have := c1; have := d1; omega)
    obtain rfl := nI_inj (c2.2.symm.trans d2.2) (by have := c2; have := d2; omega) (by have := c2; have := d2; omega)
    obtain rfl := nI_inj (c3.2.symm.trans d3.2) (by have := c3; have := d3; omega) (by have := c3; have := d3; omega)
    obtain rfl := nI_inj (c4.2.symm.trans d4.2) (by have := c4; have := d4; omega) (by have := c4; have := d4; omega)
    obtain rfl := nI_inj (c5.2.2.symm.trans d5.2.2) (by have := c5; have := d5; omega) (by have := c5; have := d5; omega)
    exact ⟨rfl, rfl⟩
  · rintro a M1 ⟨w, le, sh, st, pr, c1, c2, c3, c4, c5, c6, rfl, rfl⟩
    exact inv_cloth ho hN hX (fBo_01 y) c1.1 c1.2.1 c2.1 c3.1 c4.1 c5.1 c5.2.1 c6
def SM_wash (M : tM) (x : Int32) : UInt64 → tM → Prop := fun a M' => ∃ (jc : Nat), jc < mC M ∧ x = nI jc ∧ a = (fWash (mcl M jc)).2.1 ∧ M' = sCl M jc (fWash (mcl M jc))
set_option maxHeartbeats 1000000 in
theorem C_wash {l : Launch} {D : va_G} {cy : Nat → ClassId} {sad : Nat → Nat} {em : Nat} {s0 : State} {a0 : Array Value} (G : kG kSTR l D cy sad em s0 a0) (N3 : kN3 s0) {nb : Nat} {M : tM} {ad : Nat → Nat} {ct : Nat → Option va_E} (h0 : lI cy em nb M ad ct) (hnb : nb ≤ 512) (x : Int32) : KM l yL_wash [.codeWith yL_wash method_4_code 4 (some .int) [(0, 8, 11, 21)]] 8 144 2 12 [.ref (ad 1), .int x, .ref (ad 91)] D s0 ad ct (oCd cy ad M (spG (¬ kIn x (mC M)) (False) (False) (SM_wash M x) M)) := by
  obtain ⟨⟨hm, hfc, tb, fl, fw, fh, fr, hT⟩, hlr, ho, hN, hX, hem, ⟨fo, h90⟩, fd, h91⟩ := id h0
  have hb := ho.1
  refine V_wash G N3 h0 (c_wash G hm ho hN x) (fun v ad' ct1 hp => ?_) (fun E h => h)
  obtain ⟨jc, c1, c2, rfl, rfl, h1, hr⟩ := hp
  exact ⟨_, sCl M jc (fWash (mcl M jc)), rfl, bC_sCl h0.1 ho c1 _ h1 hr, (inv_wash ho hN hX c1).1, rfl, jc, c1, c2, rfl, rfl⟩
set_option maxHeartbeats 1000000 in
theorem R_wash {l : Launch} {D : va_G} {cy : Nat → ClassId} {sad : Nat → Nat} {em : Nat} {s0 : State} {a0 : Array Value} (G : kG kSTR l D cy sad em s0 a0) {nb : Nat} {M : tM} (ho : okM M) (hN : okN nb M) (hX : okX M) (hnb : nb ≤ 512) (x : Int32) (adC : Nat → Nat) (ctC : Nat → Option va_E) (hlR : lR cy adC ctC M) (hem : adC 0 = em) : KM l yX11_wash [.code yX11_wash prog_10_method_8_code 3 (some .double)] 4 120 0 0 [.ref (adC 100), .int x] D s0 adC ctC (oRd cy adC ctC (spG (¬ kIn x (mC M)) (False) (False) (SM_wash M x) M)) := by
  obtain ⟨⟨th, sm, hm0⟩, hL0, hF, h198⟩ := id hlR
  have hb := ho.1
  refine KM.mono (r_wash G hm0 hL0 ho hlR.hfr hN x) (fun v ad' ct' hp => ?_)
  obtain ⟨b, rfl, rfl, hc⟩ := hp
  rcases hc with ⟨f, h1, hk⟩ | ⟨jc, c1, c2, rfl, hs, h1, hr⟩
  · exact oRd_no hlR h1 hk (Or.inl ⟨f, rfl⟩)
  · have hz := bR_sCl hlR ho c1 _ h1 hs hr
    exact oRd_yes (MR := sCl M jc (fWash (mcl M jc))) (hs) hz.1 hz.2 (rfl) ⟨jc, c1, c2, rfl, rfl⟩
theorem U_wash {nb : Nat} {M : tM} (ho : okM M) (hN : okN nb M) (hX : okX M) (hnb : nb ≤ 512) (x : Int32) : spOk nb (spG (¬ kIn x (mC M)) (False) (False) (SM_wash M x) M) := by
  have hv : okM M ∧ okN (nb + 1) M ∧ okX M := ⟨ho, hN.mono (Nat.le_succ _), hX⟩
  have hb := ho.1
  refine spG_ok (fun _ z => z.elim) (fun _ z => z.elim) (fun _ z => z.elim) ?_ ?_ ?_ ?_ hv ?_
  · rintro f a M' ⟨jc, c1, c2, -, -⟩
    exact f ⟨jc, c1, c2⟩
  · exact fun f _ _ _ => f.elim
  · exact fun f _ _ _ => f.elim
  · rintro a M1 b M2 ⟨jc, c1, c2, rfl, rfl⟩ ⟨jc_2, d1, d2, rfl, rfl⟩
    obtain rfl := nI_inj (c2.symm.trans d2) (by omega) (by omega)
    exact ⟨rfl, rfl⟩
  · rintro a M1 ⟨jc, c1, c2, rfl, rfl⟩
    exact inv_wash ho hN hX c1
def SM_person (M : tM) (x1 x2 x3 x4 : Int32) : Int32 → tM → Prop := fun a M' => ∃ (w1 w2 w3 w4 : Nat), (50 ≤ w1 ∧ w1 ≤ 200 ∧ x1 = nI w1) ∧ (50 ≤ w2 ∧ w2 ≤ 200 ∧ x2 = nI w2) ∧ (50 ≤ w3 ∧ w3 ≤ 200 ∧ x3 = nI w3) ∧ (50 ≤ w4 ∧ w4 ≤ 200 ∧ x4 = nI w4) ∧ mP M < 6 ∧ a = nI (mP M) ∧ M' = aPe M (fMs w1 w2 w3 w4)
set_option maxHeartbeats 1000000 in
theorem C_person {l : Launch} {D : va_G} {cy : Nat → ClassId} {sad : Nat → Nat} {em : Nat} {s0 : State} {a0 : Array Value} (G : kG kSTR l D cy sad em s0 a0) (N3 : kN3 s0) {nb : Nat} {M : tM} {ad : Nat → Nat} {ct : Nat → Option va_E} (h0 : lI cy em nb M ad ct) (hnb : nb ≤ 512) (x1 x2 x3 x4 : Int32) : KM l yL_person [.codeWith yL_person method_5_code 7 (some .int) [(0, 14, 17, 13), (0, 14, 21, 15)]] 7 114 2 12 [.ref (ad 1), .int x1, .int x2, .int x3, .int x4, .ref (ad 90)] D s0 ad ct (oCi cy ad M (spG ((x1 < 50 ∨ 200 < x1) ∨ (x2 < 50 ∨ 200 < x2) ∨ (x3 < 50 ∨ 200 < x3) ∨ (x4 < 50 ∨ 200 < x4)) (¬ ((x1 < 50 ∨ 200 < x1) ∨ (x2 < 50 ∨ 200 < x2) ∨ (x3 < 50 ∨ 200 < x3) ∨ (x4 < 50 ∨ 200 < x4)) ∧ mP M = 6) (False) (SM_person M x1 x2 x3 x4) M)) := by
  obtain ⟨⟨hm, hfc, tb, fl, fw, fh, fr, hT⟩, hlr, ho, hN, hX, hem, ⟨fo, h90⟩, fd, h91⟩ := id h0
  have hb := ho.1
  refine V_person G N3 h0 (c_person G hm ho hfc x1 x2 x3 x4) (fun v ad' ct1 hp => ?_) (fun E h => h)
  obtain ⟨w1, w2, w3, w4, c1, c2, c3, c4, c5, rfl, had, hz, ha, hq, hr⟩ := hp
  exact ⟨_, aPe M (fMs w1 w2 w3 w4), rfl, bC_person h0.1 ho _ c5 had hz ha hq hr, (inv_person ho hN hX ⟨c1.1, c1.2.1⟩ ⟨c2.1, c2.2.1⟩ ⟨c3.1, c3.2.1⟩ ⟨c4.1, c4.2.1⟩ c5).1, had 1 (by omega), w1, w2, w3, w4, c1, c2, c3, c4, c5, rfl, rfl⟩
set_option maxHeartbeats 1000000 in
theorem R_person {l : Launch} {D : va_G} {cy : Nat → ClassId} {sad : Nat → Nat} {em : Nat} {s0 : State} {a0 : Array Value} (G : kG kSTR l D cy sad em s0 a0) {nb : Nat} {M : tM} (ho : okM M) (hN : okN nb M) (hX : okX M) (hnb : nb ≤ 512) (x1 x2 x3 x4 : Int32) (adC : Nat → Nat) (ctC : Nat → Option va_E) (hlR : lR cy adC ctC M) (hem : adC 0 = em) : KM l yX11_person [.code yX11_person prog_10_method_9_code 10 (some .int)] 6 170 2 14 [.ref (adC 100), .int x1, .int x2, .int x3, .int x4] D s0 adC ctC (oRi cy adC ctC (spG ((x1 < 50 ∨ 200 < x1) ∨ (x2 < 50 ∨ 200 < x2) ∨ (x3 < 50 ∨ 200 < x3) ∨ (x4 < 50 ∨ 200 < x4)) (¬ ((x1 < 50 ∨ 200 < x1) ∨ (x2 < 50 ∨ 200 < x2) ∨ (x3 < 50 ∨ 200 < x3) ∨ (x4 < 50 ∨ 200 < x4)) ∧ mP M = 6) (False) (SM_person M x1 x2 x3 x4) M)) := by
  obtain ⟨⟨th, sm, hm0⟩, hL0, hF, h198⟩ := id hlR
  have hb := ho.1
  refine KM.mono (r_person G hm0 hL0 ho hF hem x1 x2 x3 x4) (fun v ad' ct' hp => ?_)
  obtain ⟨b, rfl, hc⟩ := hp
  rcases hc with ⟨rfl, hc⟩ | ⟨w1, w2, w3, w4, c1, c2, c3, c4, c5, rfl, had, hl0, hl, h1, hs, hr⟩
  · rcases hc with ⟨f, h1, hk⟩ | ⟨f, h1, hk⟩
    · exact oRi_no hlR h1 hk (Or.inl ⟨f, rfl⟩)
    · exact oRi_no hlR h1 hk (Or.inr (Or.inl ⟨f, rfl⟩))
  · have hz := bR_person hlR ho _ c5 had hl h1 hs hr
    exact oRi_yes (MR := aPe M (fMs w1 w2 w3 w4)) (hs.trans (congrArg some (oMod_6 (M := M) (fun j a b => had j (by omega) (by omega))))) hz.1 hz.2 (had 100 (by omega) (by omega)) ⟨w1, w2, w3, w4, c1, c2, c3, c4, c5, rfl, rfl⟩
theorem U_person {nb : Nat} {M : tM} (ho : okM M) (hN : okN nb M) (hX : okX M) (hnb : nb ≤ 512) (x1 x2 x3 x4 : Int32) : spOk nb (spG ((x1 < 50 ∨ 200 < x1) ∨ (x2 < 50 ∨ 200 < x2) ∨ (x3 < 50 ∨ 200 < x3) ∨ (x4 < 50 ∨ 200 < x4)) (¬ ((x1 < 50 ∨ 200 < x1) ∨ (x2 < 50 ∨ 200 < x2) ∨ (x3 < 50 ∨ 200 < x3) ∨ (x4 < 50 ∨ 200 < x4)) ∧ mP M = 6) (False) (SM_person M x1 x2 x3 x4) M) := by
  have hv : okM M ∧ okN (nb + 1) M ∧ okX M := ⟨ho, hN.mono (Nat.le_succ _), hX⟩
  have hb := ho.1
  refine spG_ok (fun f g => g.1 f) (fun _ z => z.elim) (fun _ z => z.elim) ?_ ?_ ?_ ?_ hv ?_
  · rintro f a M' ⟨w1, w2, w3, w4, ⟨a1, a2, rfl⟩, ⟨b1, b2, rfl⟩, ⟨d1, d2, rfl⟩, ⟨e1, e2, rfl⟩, c5, -, -⟩
    exact f.elim (rng_no (a := 50) (b := 200) a1 a2 (by decide)) (fun f => f.elim (rng_no (a := 50) (b := 200) b1 b2 (by decide)) (fun f => f.elim (rng_no (a := 50) (b := 200) d1 d2 (by decide)) (rng_no (a := 50) (b := 200) e1 e2 (by decide))))
  · rintro f a M' ⟨w1, w2, w3, w4, -, -, -, -, c5, -, -⟩
    have := f.2
    omega
  · exact fun f _ _ _ => f.elim
  · rintro a M1 b M2 ⟨w1, w2, w3, w4, c1, c2, c3, c4, c5, rfl, rfl⟩ ⟨w1_2, w2_2, w3_2, w4_2, d1, d2, d3, d4, d5, rfl, rfl⟩
    obtain rfl := nI_inj (c1.2.2.symm.trans d1.2.2) (by have := c1; have := d1; omega) (by have := c1; have := d1; omega)
    obtain rfl := nI_inj (c2.2.2.symm.trans d2.2.2) (by have := c2; have := d2; omega) (by have := c2; have := d2; omega)
    obtain rfl := nI_inj (c3.2.2.symm.trans d3.2.2) (by have := c3; have := d3; omega) (by have := c3; have := d3; omega)
    obtain rfl := nI_inj (c4.2.2.symm.trans d4.2.2) (by have := c4; have := d4; omega) (by have := c4; have := d4; omega)
    exact ⟨rfl, rfl⟩
  · rintro a M1 ⟨w1, w2, w3, w4, c1, c2, c3, c4, c5, rfl, rfl⟩
    exact inv_person ho hN hX ⟨c1.1, c1.2.1⟩ ⟨c2.1, c2.2.1⟩ ⟨c3.1, c3.2.1⟩ ⟨c4.1, c4.2.1⟩ c5
def SM_measure (M : tM) (x xm xv : Int32) : Int32 → tM → Prop := fun a M' => ∃ (q j mv : Nat), q < mP M ∧ x = nI q ∧ j < 4 ∧ xm = nI j ∧ 50 ≤ mv ∧ mv ≤ 200 ∧ xv = nI mv ∧ a = nI (mpe M q j) ∧ M' = sPe M q (vf_upd (mpe M q) j mv)
set_option maxHeartbeats 1000000 in
theorem C_measure {l : Launch} {D : va_G} {cy : Nat → ClassId} {sad : Nat → Nat} {em : Nat} {s0 : State} {a0 : Array Value} (G : kG kSTR l D cy sad em s0 a0) (N3 : kN3 s0) {nb : Nat} {M : tM} {ad : Nat → Nat} {ct : Nat → Option va_E} (h0 : lI cy em nb M ad ct) (hnb : nb ≤ 512) (x xm xv : Int32) : KM l yL_measure [.codeWith yL_measure method_6_code 6 (some .int) [(0, 12, 15, 21), (0, 12, 19, 13)]] 8 145 2 12 [.ref (ad 1), .int x, .int xm, .int xv, .ref (ad 90)] D s0 ad ct (oCi cy ad M (spG (¬ kIn x (mP M) ∨ ¬ kIn xm 4) (kIn x (mP M) ∧ kIn xm 4 ∧ (xv < 50 ∨ 200 < xv)) (False) (SM_measure M x xm xv) M)) := by
  obtain ⟨⟨hm, hfc, tb, fl, fw, fh, fr, hT⟩, hlr, ho, hN, hX, hem, ⟨fo, h90⟩, fd, h91⟩ := id h0
  have hb := ho.1
  refine V_measure G N3 h0 (c_measure G hm ho x xm xv) (fun v ad' ct1 hp => ?_) (fun E h => h)
  obtain ⟨q, j, mv, c1, c2, c3, c4, c5, c6, c7, rfl, rfl, h1, hr⟩ := hp
  exact ⟨_, sPe M q (vf_upd (mpe M q) j mv), rfl, bC_sPe h0.1 ho c1 _ h1 hr, (inv_measure ho hN hX c1 c5 c6).1, rfl, q, j, mv, c1, c2, c3, c4, c5, c6, c7, rfl, rfl⟩
set_option maxHeartbeats 1000000 in
theorem R_measure {l : Launch} {D : va_G} {cy : Nat → ClassId} {sad : Nat → Nat} {em : Nat} {s0 : State} {a0 : Array Value} (G : kG kSTR l D cy sad em s0 a0) {nb : Nat} {M : tM} (ho : okM M) (hN : okN nb M) (hX : okX M) (hnb : nb ≤ 512) (x xm xv : Int32) (adC : Nat → Nat) (ctC : Nat → Option va_E) (hlR : lR cy adC ctC M) (hem : adC 0 = em) : KM l yX11_measure [.code yX11_measure prog_10_method_11_code 5 (some .int)] 4 120 0 0 [.ref (adC 100), .int x, .int xm, .int xv] D s0 adC ctC (oRi cy adC ctC (spG (¬ kIn x (mP M) ∨ ¬ kIn xm 4) (kIn x (mP M) ∧ kIn xm 4 ∧ (xv < 50 ∨ 200 < xv)) (False) (SM_measure M x xm xv) M)) := by
  obtain ⟨⟨th, sm, hm0⟩, hL0, hF, h198⟩ := id hlR
  have hb := ho.1
  refine KM.mono (r_measure G hm0 hL0 ho hlR.hfr x xm xv) (fun v ad' ct' hp => ?_)
  obtain ⟨b, rfl, rfl, hc⟩ := hp
  rcases hc with ⟨f, h1, hk⟩ | ⟨f, h1, hk⟩ | ⟨q, j, mv, c1, c2, c3, c4, c5, c6, c7, rfl, hs, h1, hr⟩
  · exact oRi_no hlR h1 hk (Or.inl ⟨f, rfl⟩)
  · exact oRi_no hlR h1 hk (Or.inr (Or.inl ⟨f, rfl⟩))
  · have hz := bR_sPe hlR ho c1 _ h1 hs hr
    exact oRi_yes (MR := sPe M q (vf_upd (mpe M q) j mv)) (hs) hz.1 hz.2 (rfl) ⟨q, j, mv, c1, c2, c3, c4, c5, c6, c7, rfl, rfl⟩
theorem U_measure {nb : Nat} {M : tM} (ho : okM M) (hN : okN nb M) (hX : okX M) (hnb : nb ≤ 512) (x xm xv : Int32) : spOk nb (spG (¬ kIn x (mP M) ∨ ¬ kIn xm 4) (kIn x (mP M) ∧ kIn xm 4 ∧ (xv < 50 ∨ 200 < xv)) (False) (SM_measure M x xm xv) M) := by
  have hv : okM M ∧ okN (nb + 1) M ∧ okX M := ⟨ho, hN.mono (Nat.le_succ _), hX⟩
  have hb := ho.1
  refine spG_ok (fun f g => f.elim (fun z => z g.1) (fun z => z g.2.1)) (fun _ z => z.elim) (fun _ z => z.elim) ?_ ?_ ?_ ?_ hv ?_
  · rintro f a M' ⟨q, j, mv, c1, c2, c3, c4, -, -, -, -, -⟩
    exact f.elim (fun z => z ⟨q, c1, c2⟩) (fun z => z ⟨j, c3, c4⟩)
  · rintro f a M' ⟨q, j, mv, -, -, -, -, c5, c6, rfl, -, -⟩
    exact (rng_no (a := 50) (b := 200) c5 c6 (by decide)) f.2.2
  · exact fun f _ _ _ => f.elim
  · rintro a M1 b M2 ⟨q, j, mv, c1, c2, c3, c4, c5, c6, c7, rfl, rfl⟩ ⟨q_2, j_2, mv_2, d1, d2, d3, d4, d5, d6, d7, rfl, rfl⟩
    obtain rfl := nI_inj (c2.symm.trans d2) (by omega) (by omega)
    obtain rfl := nI_inj (c4.symm.trans d4) (by omega) (by omega)
    obtain rfl := nI_inj (c7.symm.trans d7) (by omega) (by omega)
    exact ⟨rfl, rfl⟩
  · rintro a M1 ⟨q, j, mv, c1, c2, c3, c4, c5, c6, c7, rfl, rfl⟩
    exact inv_measure ho hN hX c1 c5 c6
def SM_style (M : tM) : Int32 → tM → Prop := fun a M' => mS M < 3 ∧ a = nI (mS M) ∧ M' = aSt M zSt
set_option maxHeartbeats 1000000 in
theorem C_style {l : Launch} {D : va_G} {cy : Nat → ClassId} {sad : Nat → Nat} {em : Nat} {s0 : State} {a0 : Array Value} (G : kG kSTR l D cy sad em s0 a0) (N3 : kN3 s0) {nb : Nat} {M : tM} {ad : Nat → Nat} {ct : Nat → Option va_E} (h0 : lI cy em nb M ad ct) (hnb : nb ≤ 512) : KM l yL_style [.codeWith yL_style method_7_code 3 (some .int) [(0, 8, 11, 15)]] 7 110 2 12 [.ref (ad 1), .ref (ad 90)] D s0 ad ct (oCi cy ad M (spG (mS M = 3) (False) (False) (SM_style M) M)) := by
  obtain ⟨⟨hm, hfc, tb, fl, fw, fh, fr, hT⟩, hlr, ho, hN, hX, hem, ⟨fo, h90⟩, fd, h91⟩ := id h0
  have hb := ho.1
  refine V_style G N3 h0 (c_style G hm ho hfc) (fun v ad' ct1 hp => ?_) (fun E h => h)
  obtain ⟨c1, rfl, had, hz, hy, ha, hq, hr⟩ := hp
  exact ⟨_, aSt M zSt, rfl, bC_style h0.1 ho c1 had hz hy ha hq hr, (inv_style ho hN hX c1).1, had 1 (by omega) (by omega), c1, rfl, rfl⟩
set_option maxHeartbeats 1000000 in
theorem R_style {l : Launch} {D : va_G} {cy : Nat → ClassId} {sad : Nat → Nat} {em : Nat} {s0 : State} {a0 : Array Value} (G : kG kSTR l D cy sad em s0 a0) {nb : Nat} {M : tM} (ho : okM M) (hN : okN nb M) (hX : okX M) (hnb : nb ≤ 512) (adC : Nat → Nat) (ctC : Nat → Option va_E) (hlR : lR cy adC ctC M) (hem : adC 0 = em) : KM l yX11_style [.code yX11_style prog_10_method_12_code 1 (some .int)] 6 170 2 13 [.ref (adC 100)] D s0 adC ctC (oRi cy adC ctC (spG (mS M = 3) (False) (False) (SM_style M) M)) := by
  obtain ⟨⟨th, sm, hm0⟩, hL0, hF, h198⟩ := id hlR
  have hb := ho.1
  refine KM.mono (r_style G hm0 hL0 ho hF hem) (fun v ad' ct' hp => ?_)
  obtain ⟨b, rfl, hc⟩ := hp
  rcases hc with ⟨rfl, hc⟩ | ⟨c1, rfl, had, hl0, hl, h1, hs, hr⟩
  · obtain ⟨f, h1, hk⟩ := hc
    exact oRi_no hlR h1 hk (Or.inl ⟨f, rfl⟩)
  · have hz := bR_style hlR ho c1 had hl h1 hs hr
    exact oRi_yes (MR := aSt M zSt) (hs.trans (congrArg some (oMod_6 (M := M) (fun j a b => had j (by omega) (by omega))))) hz.1 hz.2 (had 100 (by omega) (by omega)) ⟨c1, rfl, rfl⟩
theorem U_style {nb : Nat} {M : tM} (ho : okM M) (hN : okN nb M) (hX : okX M) (hnb : nb ≤ 512) : spOk nb (spG (mS M = 3) (False) (False) (SM_style M) M) := by
  have hv : okM M ∧ okN (nb + 1) M ∧ okX M := ⟨ho, hN.mono (Nat.le_succ _), hX⟩
  have hb := ho.1
  refine spG_ok (fun _ z => z.elim) (fun _ z => z.elim) (fun _ z => z.elim) ?_ ?_ ?_ ?_ hv ?_
  · rintro f a M' ⟨c1, -, -⟩
    omega
  · exact fun f _ _ _ => f.elim
  · exact fun f _ _ _ => f.elim
  · rintro a M1 b M2 ⟨c1, rfl, rfl⟩ ⟨d1, rfl, rfl⟩
    exact ⟨rfl, rfl⟩
  · rintro a M1 ⟨c1, rfl, rfl⟩
    exact inv_style ho hN hX c1
def SM_piece (M : tM) (x1 x2 x3 x4 x5 : Int32) : Int32 → tM → Prop := fun a M' => ∃ (i p1 p2 es cn : Nat), i < mS M ∧ x1 = nI i ∧ (okPart p1 ∧ x2 = nI p1) ∧ (okPart p2 ∧ x3 = nI p2) ∧ (es ≤ 40 ∧ x4 = nI es) ∧ (1 ≤ cn ∧ cn ≤ 4 ∧ x5 = nI cn) ∧ (mst M i).1 < 5 ∧ (mst M i).2.2 = 0 ∧ a = nI ((mst M i).1 + 1) ∧ M' = sSt M i (zPc (mst M i) (p1, p2, es, cn))
set_option maxHeartbeats 1000000 in
theorem C_piece {l : Launch} {D : va_G} {cy : Nat → ClassId} {sad : Nat → Nat} {em : Nat} {s0 : State} {a0 : Array Value} (G : kG kSTR l D cy sad em s0 a0) (N3 : kN3 s0) {nb : Nat} {M : tM} {ad : Nat → Nat} {ct : Nat → Option va_E} (h0 : lI cy em nb M ad ct) (hnb : nb ≤ 512) (x1 x2 x3 x4 x5 : Int32) : KM l yL_piece [.codeWith yL_piece method_8_code 8 (some .int) [(0, 16, 19, 21), (0, 16, 23, 13), (0, 16, 27, 15)]] 8 146 2 12 [.ref (ad 1), .int x1, .int x2, .int x3, .int x4, .int x5, .ref (ad 90)] D s0 ad ct (oCi cy ad M (spG (¬ kIn x1 (mS M)) (kIn x1 (mS M) ∧ (¬ kPart x2 ∨ ¬ kPart x3 ∨ (x4 < 0 ∨ 40 < x4) ∨ (x5 < 1 ∨ 4 < x5))) (∃ i, i < mS M ∧ x1 = nI i ∧ ¬ (¬ kPart x2 ∨ ¬ kPart x3 ∨ (x4 < 0 ∨ 40 < x4) ∨ (x5 < 1 ∨ 4 < x5)) ∧ ((mst M i).1 = 5 ∨ ¬ (mst M i).2.2 = 0)) (SM_piece M x1 x2 x3 x4 x5) M)) := by
  obtain ⟨⟨hm, hfc, tb, fl, fw, fh, fr, hT⟩, hlr, ho, hN, hX, hem, ⟨fo, h90⟩, fd, h91⟩ := id h0
  have hb := ho.1
  refine V_piece G N3 h0 (c_piece G hm ho hfc x1 x2 x3 x4 x5) (fun v ad' ct1 hp => ?_) (fun E h => h)
  obtain ⟨i, p1, p2, es, cn, c1, c2, c3, c4, c5, c6, c7, c8, rfl, had, hz, ha, hs, hr⟩ := hp
  exact ⟨_, sSt M i (zPc (mst M i) (p1, p2, es, cn)), rfl, bC_piece h0.1 ho c1 c7 _ had hz ha hs hr, (inv_piece ho hN hX c1 c7 c8 ⟨c3.1, c4.1, c5.1, c6.1, c6.2.1⟩).1, had 1 (by omega), i, p1, p2, es, cn, c1, c2, c3, c4, c5, c6, c7, c8, rfl, rfl⟩
set_option maxHeartbeats 1000000 in
theorem R_piece {l : Launch} {D : va_G} {cy : Nat → ClassId} {sad : Nat → Nat} {em : Nat} {s0 : State} {a0 : Array Value} (G : kG kSTR l D cy sad em s0 a0) {nb : Nat} {M : tM} (ho : okM M) (hN : okN nb M) (hX : okX M) (hnb : nb ≤ 512) (x1 x2 x3 x4 x5 : Int32) (adC : Nat → Nat) (ctC : Nat → Option va_E) (hlR : lR cy adC ctC M) (hem : adC 0 = em) : KM l yX11_piece [.code yX11_piece prog_10_method_15_code 10 (some .int)] 6 190 3 18 [.ref (adC 100), .int x1, .int x2, .int x3, .int x4, .int x5] D s0 adC ctC (oRi cy adC ctC (spG (¬ kIn x1 (mS M)) (kIn x1 (mS M) ∧ (¬ kPart x2 ∨ ¬ kPart x3 ∨ (x4 < 0 ∨ 40 < x4) ∨ (x5 < 1 ∨ 4 < x5))) (∃ i, i < mS M ∧ x1 = nI i ∧ ¬ (¬ kPart x2 ∨ ¬ kPart x3 ∨ (x4 < 0 ∨ 40 < x4) ∨ (x5 < 1 ∨ 4 < x5)) ∧ ((mst M i).1 = 5 ∨ ¬ (mst M i).2.2 = 0)) (SM_piece M x1 x2 x3 x4 x5) M)) := by
  obtain ⟨⟨th, sm, hm0⟩, hL0, hF, h198⟩ := id hlR
  have hb := ho.1
  refine KM.mono (r_piece G hm0 hL0 ho hF hem hX.2.2 x1 x2 x3 x4 x5) (fun v ad' ct' hp => ?_)
  obtain ⟨b, rfl, hc⟩ := hp
  rcases hc with ⟨rfl, hc⟩ | ⟨i, p1, p2, es, cn, c1, c2, c3, c4, c5, c6, c7, c8, rfl, had, hl0, hl, h1, hs, hr⟩
  · rcases hc with ⟨f, h1, hk⟩ | ⟨f, h1, hk⟩ | ⟨f, h1, hk⟩
    · exact oRi_no hlR h1 hk (Or.inl ⟨f, rfl⟩)
    · exact oRi_no hlR h1 hk (Or.inr (Or.inl ⟨f, rfl⟩))
    · exact oRi_no hlR h1 hk (Or.inr (Or.inr ⟨f, rfl⟩))
  · have hz := bR_piece hlR ho c1 c7 ((hX.2.2 i c1).mp c8) _ had hl h1 hs hr
    exact oRi_yes (MR := sSt M i (zPc (mst M i) (p1, p2, es, cn))) (hs.trans (congrArg some (oMod_6 (M := M) (fun j a b => had j (by omega) (by omega))))) hz.1 hz.2 (had 100 (by omega) (by have := ho.1; omega)) ⟨i, p1, p2, es, cn, c1, c2, c3, c4, c5, c6, c7, c8, rfl, rfl⟩
theorem U_piece {nb : Nat} {M : tM} (ho : okM M) (hN : okN nb M) (hX : okX M) (hnb : nb ≤ 512) (x1 x2 x3 x4 x5 : Int32) : spOk nb (spG (¬ kIn x1 (mS M)) (kIn x1 (mS M) ∧ (¬ kPart x2 ∨ ¬ kPart x3 ∨ (x4 < 0 ∨ 40 < x4) ∨ (x5 < 1 ∨ 4 < x5))) (∃ i, i < mS M ∧ x1 = nI i ∧ ¬ (¬ kPart x2 ∨ ¬ kPart x3 ∨ (x4 < 0 ∨ 40 < x4) ∨ (x5 < 1 ∨ 4 < x5)) ∧ ((mst M i).1 = 5 ∨ ¬ (mst M i).2.2 = 0)) (SM_piece M x1 x2 x3 x4 x5) M) := by
  have hv : okM M ∧ okN (nb + 1) M ∧ okX M := ⟨ho, hN.mono (Nat.le_succ _), hX⟩
  have hb := ho.1
  refine spG_ok (fun f g => f g.1) (fun f ⟨i, g1, g2, _⟩ => f ⟨i, g1, g2⟩) (fun f ⟨i, _, _, g, _⟩ => g f.2) ?_ ?_ ?_ ?_ hv ?_
  · rintro f a M' ⟨i, p1, p2, es, cn, c1, c2, -⟩
    exact f ⟨i, c1, c2⟩
  · rintro f a M' ⟨i, p1, p2, es, cn, c1, c2, c3, c4, ⟨e1, rfl⟩, ⟨g1, g2, rfl⟩, -⟩
    exact f.2.elim (fun z => z ⟨p1, c3⟩) (fun z => z.elim (fun z => z ⟨p2, c4⟩) (fun z => z.elim (rng_no (a := 0) (b := 40) (Nat.zero_le _) e1 (by decide)) (rng_no (a := 1) (b := 4) g1 g2 (by decide))))
  · rintro ⟨i2, g1, g2, g3, g4⟩ a M' ⟨i, p1, p2, es, cn, c1, c2, c3, c4, c5, c6, c7, c8, -, -⟩
    have hb := ho.1
    obtain rfl := nI_inj (c2.symm.trans g2) (by omega) (by omega)
    exact g4.elim (fun z => absurd z (by omega)) (fun z => z c8)
  · rintro a M1 b M2 ⟨i, p1, p2, es, cn, c1, c2, c3, c4, c5, c6, c7, c8, rfl, rfl⟩ ⟨i_2, p1_2, p2_2, es_2, cn_2, d1, d2, d3, d4, d5, d6, d7, d8, rfl, rfl⟩
    obtain rfl := nI_inj (c2.symm.trans d2) (by omega) (by omega)
    obtain rfl := nI_inj (c3.2.symm.trans d3.2) (by have := c3.1.1; have := d3.1.1; omega) (by have := c3.1.1; have := d3.1.1; omega)
    obtain rfl := nI_inj (c4.2.symm.trans d4.2) (by have := c4.1.1; have := d4.1.1; omega) (by have := c4.1.1; have := d4.1.1; omega)
    obtain rfl := nI_inj (c5.2.symm.trans d5.2) (by have := c5; have := d5; omega) (by have := c5; have := d5; omega)
    obtain rfl := nI_inj (c6.2.2.symm.trans d6.2.2) (by have := c6; have := d6; omega) (by have := c6; have := d6; omega)
    exact ⟨rfl, rfl⟩
  · rintro a M1 ⟨i, p1, p2, es, cn, c1, c2, c3, c4, c5, c6, c7, c8, rfl, rfl⟩
    exact inv_piece ho hN hX c1 c7 c8 ⟨c3.1, c4.1, c5.1, c6.1, c6.2.1⟩
def SM_hand (M : tM) (x : Int32) : Int32 → tM → Prop := fun a M' => ∃ (w : Nat), 1 ≤ w ∧ w ≤ 16 ∧ x = nI w ∧ mH M < 3 ∧ a = nI (mH M) ∧ M' = aHa M (w, cD0)
set_option maxHeartbeats 1000000 in
theorem C_hand {l : Launch} {D : va_G} {cy : Nat → ClassId} {sad : Nat → Nat} {em : Nat} {s0 : State} {a0 : Array Value} (G : kG kSTR l D cy sad em s0 a0) (N3 : kN3 s0) {nb : Nat} {M : tM} {ad : Nat → Nat} {ct : Nat → Option va_E} (h0 : lI cy em nb M ad ct) (hnb : nb ≤ 512) (x : Int32) : KM l yL_hand [.codeWith yL_hand method_9_code 4 (some .int) [(0, 9, 12, 13), (0, 9, 15, 15)]] 7 111 2 12 [.ref (ad 1), .int x, .ref (ad 90)] D s0 ad ct (oCi cy ad M (spG (x < 1 ∨ 16 < x) (¬ (x < 1 ∨ 16 < x) ∧ mH M = 3) (False) (SM_hand M x) M)) := by
  obtain ⟨⟨hm, hfc, tb, fl, fw, fh, fr, hT⟩, hlr, ho, hN, hX, hem, ⟨fo, h90⟩, fd, h91⟩ := id h0
  have hb := ho.1
  refine V_hand G N3 h0 (c_hand G hm ho hfc x) (fun v ad' ct1 hp => ?_) (fun E h => h)
  obtain ⟨w, c1, c2, c3, c4, rfl, had, hz, ha, hq, hr⟩ := hp
  exact ⟨_, aHa M (w, cD0), rfl, bC_hand h0.1 ho _ c4 had hz ha hq hr, (inv_hand ho hN hX c1 c2 c4).1, had 1 (by omega), w, c1, c2, c3, c4, rfl, rfl⟩
set_option maxHeartbeats 1000000 in
theorem R_hand {l : Launch} {D : va_G} {cy : Nat → ClassId} {sad : Nat → Nat} {em : Nat} {s0 : State} {a0 : Array Value} (G : kG kSTR l D cy sad em s0 a0) {nb : Nat} {M : tM} (ho : okM M) (hN : okN nb M) (hX : okX M) (hnb : nb ≤ 512) (x : Int32) (adC : Nat → Nat) (ctC : Nat → Option va_E) (hlR : lR cy adC ctC M) (hem : adC 0 = em) : KM l yX11_hand [.code yX11_hand prog_10_method_16_code 2 (some .int)] 4 120 0 0 [.ref (adC 100), .int x] D s0 adC ctC (oRi cy adC ctC (spG (x < 1 ∨ 16 < x) (¬ (x < 1 ∨ 16 < x) ∧ mH M = 3) (False) (SM_hand M x) M)) := by
  obtain ⟨⟨th, sm, hm0⟩, hL0, hF, h198⟩ := id hlR
  have hb := ho.1
  refine KM.mono (r_hand G hm0 hL0 ho hlR.hfr x) (fun v ad' ct' hp => ?_)
  obtain ⟨b, rfl, rfl, hc⟩ := hp
  rcases hc with ⟨f, h1, hk⟩ | ⟨f, h1, hk⟩ | ⟨w, c1, c2, c3, c4, rfl, hs, h1, hr⟩
  · exact oRi_no hlR h1 hk (Or.inl ⟨f, rfl⟩)
  · exact oRi_no hlR h1 hk (Or.inr (Or.inl ⟨f, rfl⟩))
  · have hz := bR_hand hlR ho _ c4 fF_aHa h1 hs hr
    exact oRi_yes (MR := aHa M (w, cD0)) (hs) hz.1 hz.2 (rfl) ⟨w, c1, c2, c3, c4, rfl, rfl⟩
theorem U_hand {nb : Nat} {M : tM} (ho : okM M) (hN : okN nb M) (hX : okX M) (hnb : nb ≤ 512) (x : Int32) : spOk nb (spG (x < 1 ∨ 16 < x) (¬ (x < 1 ∨ 16 < x) ∧ mH M = 3) (False) (SM_hand M x) M) := by
  have hv : okM M ∧ okN (nb + 1) M ∧ okX M := ⟨ho, hN.mono (Nat.le_succ _), hX⟩
  have hb := ho.1
  refine spG_ok (fun f g => g.1 f) (fun _ z => z.elim) (fun _ z => z.elim) ?_ ?_ ?_ ?_ hv ?_
  · rintro f a M' ⟨w, c1, c2, rfl, -⟩
    exact (rng_no (a := 1) (b := 16) c1 c2 (by decide)) f
  · rintro f a M' ⟨w, -, -, -, c4, -⟩
    have := f.2
    omega
  · exact fun f _ _ _ => f.elim
  · rintro a M1 b M2 ⟨w, c1, c2, c3, c4, rfl, rfl⟩ ⟨w_2, d1, d2, d3, d4, rfl, rfl⟩
    obtain rfl := nI_inj (c3.symm.trans d3) (by omega) (by omega)
    exact ⟨rfl, rfl⟩
  · rintro a M1 ⟨w, c1, c2, c3, c4, rfl, rfl⟩
    exact inv_hand ho hN hX c1 c2 c4
def SM_order (M : tM) (x1 x2 x3 : Int32) : Int32 → tM → Prop := fun a M' => ∃ (q i hh : Nat), q < mP M ∧ x1 = nI q ∧ i < mS M ∧ x2 = nI i ∧ hh ≤ 400 ∧ x3 = nI hh ∧ mO M < 8 ∧ 0 < (mst M i).1 ∧ a = nI (mO M) ∧ M' = fTakeM M q i (FP.d2i (mClk M) + nI hh)
set_option maxHeartbeats 1000000 in
theorem C_order {l : Launch} {D : va_G} {cy : Nat → ClassId} {sad : Nat → Nat} {em : Nat} {s0 : State} {a0 : Array Value} (G : kG kSTR l D cy sad em s0 a0) (N3 : kN3 s0) {nb : Nat} {M : tM} {ad : Nat → Nat} {ct : Nat → Option va_E} (h0 : lI cy em nb M ad ct) (hnb : nb ≤ 512) (x1 x2 x3 : Int32) : KM l yL_order [.codeWith yL_order method_10_code 6 (some .int) [(0, 12, 15, 21), (0, 12, 19, 13), (0, 12, 23, 15)]] 8 145 4 27 [.ref (ad 1), .int x1, .int x2, .int x3, .ref (ad 90)] D s0 ad ct (oCi cy ad M (spG (¬ kIn x1 (mP M) ∨ ¬ kIn x2 (mS M)) (kIn x1 (mP M) ∧ kIn x2 (mS M) ∧ (x3 < 0 ∨ 400 < x3)) (∃ i, i < mS M ∧ x2 = nI i ∧ kIn x1 (mP M) ∧ ¬ (x3 < 0 ∨ 400 < x3) ∧ (mO M = 8 ∨ (mst M i).1 = 0)) (SM_order M x1 x2 x3) M)) := by
  obtain ⟨⟨hm, hfc, tb, fl, fw, fh, fr, hT⟩, hlr, ho, hN, hX, hem, ⟨fo, h90⟩, fd, h91⟩ := id h0
  have hb := ho.1
  refine V_order G N3 h0 (c_order G hm ho hfc x1 x2 x3) (fun v ad' ct1 hp => ?_) (fun E h => h)
  obtain ⟨q, i, hh, c1, c2, c3, c4, c5, c6, c7, c8, rfl, had, hz, hy, ha, hq1, hs, hr⟩ := hp
  exact ⟨_, fTakeM M q i (FP.d2i (mClk M) + nI hh), rfl, bC_take h0.1 ho c1 c3 c7 c8 _ had hz hy ha hq1 hs hr, (inv_take ho hN hX c1 c3 c7 c8 _).1, had 1 (by omega) (by omega), q, i, hh, c1, c2, c3, c4, c5, c6, c7, c8, rfl, rfl⟩
set_option maxHeartbeats 1000000 in
theorem R_order {l : Launch} {D : va_G} {cy : Nat → ClassId} {sad : Nat → Nat} {em : Nat} {s0 : State} {a0 : Array Value} (G : kG kSTR l D cy sad em s0 a0) {nb : Nat} {M : tM} (ho : okM M) (hN : okN nb M) (hX : okX M) (hnb : nb ≤ 512) (x1 x2 x3 : Int32) (adC : Nat → Nat) (ctC : Nat → Option va_E) (hlR : lR cy adC ctC M) (hem : adC 0 = em) : KM l yX11_order [.code yX11_order prog_10_method_24_code 5 (some .int)] 6 170 3 20 [.ref (adC 100), .int x1, .int x2, .int x3] D s0 adC ctC (oRi cy adC ctC (spG (¬ kIn x1 (mP M) ∨ ¬ kIn x2 (mS M)) (kIn x1 (mP M) ∧ kIn x2 (mS M) ∧ (x3 < 0 ∨ 400 < x3)) (∃ i, i < mS M ∧ x2 = nI i ∧ kIn x1 (mP M) ∧ ¬ (x3 < 0 ∨ 400 < x3) ∧ (mO M = 8 ∨ (mst M i).1 = 0)) (SM_order M x1 x2 x3) M)) := by
  obtain ⟨⟨th, sm, hm0⟩, hL0, hF, h198⟩ := id hlR
  have hb := ho.1
  refine KM.mono (r_order G hm0 hL0 ho hF hem x1 x2 x3) (fun v ad' ct' hp => ?_)
  obtain ⟨b, rfl, hc⟩ := hp
  rcases hc with ⟨rfl, hc⟩ | ⟨q, i, hh, c1, c2, c3, c4, c5, c6, c7, c8, rfl, had, hl0, hl, h1, hz, hs, hr⟩
  · rcases hc with ⟨f, h1, hk⟩ | ⟨f, h1, hk⟩ | ⟨f, h1, hk⟩
    · exact oRi_no hlR h1 hk (Or.inl ⟨f, rfl⟩)
    · exact oRi_no hlR h1 hk (Or.inr (Or.inl ⟨f, rfl⟩))
    · exact oRi_no hlR h1 hk (Or.inr (Or.inr ⟨f, rfl⟩))
  · have hz := bR_take hlR ho c1 c3 c7 c8 _ had hl h1 hz hs hr
    exact oRi_yes (MR := fTakeM M q i (FP.d2i (mClk M) + nI hh)) (hs.trans (congrArg some (oMod_6 (M := M) (fun j a b => had j (by omega) (by omega) (by omega))))) hz.1 hz.2 (had 100 (by omega) (by omega) (by omega)) ⟨q, i, hh, c1, c2, c3, c4, c5, c6, c7, c8, rfl, rfl⟩
theorem U_order {nb : Nat} {M : tM} (ho : okM M) (hN : okN nb M) (hX : okX M) (hnb : nb ≤ 512) (x1 x2 x3 : Int32) : spOk nb (spG (¬ kIn x1 (mP M) ∨ ¬ kIn x2 (mS M)) (kIn x1 (mP M) ∧ kIn x2 (mS M) ∧ (x3 < 0 ∨ 400 < x3)) (∃ i, i < mS M ∧ x2 = nI i ∧ kIn x1 (mP M) ∧ ¬ (x3 < 0 ∨ 400 < x3) ∧ (mO M = 8 ∨ (mst M i).1 = 0)) (SM_order M x1 x2 x3) M) := by
  have hv : okM M ∧ okN (nb + 1) M ∧ okX M := ⟨ho, hN.mono (Nat.le_succ _), hX⟩
  have hb := ho.1
  refine spG_ok (fun f g => f.elim (fun z => z g.1) (fun z => z g.2.1)) (fun f ⟨i, g1, g2, g3, _⟩ => f.elim (fun z => z g3) (fun z => z ⟨i, g1, g2⟩)) (fun f ⟨i, _, _, _, g, _⟩ => g f.2.2) ?_ ?_ ?_ ?_ hv ?_
  · rintro f a M' ⟨q, i, hh, c1, c2, c3, c4, -⟩
    exact f.elim (fun z => z ⟨q, c1, c2⟩) (fun z => z ⟨i, c3, c4⟩)
  · rintro f a M' ⟨q, i, hh, c1, c2, c3, c4, c5, rfl, -⟩
    exact (rng_no (a := 0) (b := 400) (Nat.zero_le _) c5 (by decide)) f.2.2
  · rintro ⟨i2, g1, g2, g3, g4, g5⟩ a M' ⟨q, i, hh, c1, c2, c3, c4, c5, c6, c7, c8, -, -⟩
    have hb := ho.1
    obtain rfl := nI_inj (c4.symm.trans g2) (by omega) (by omega)
    omega
  · rintro a M1 b M2 ⟨q, i, hh, c1, c2, c3, c4, c5, c6, c7, c8, rfl, rfl⟩ ⟨q_2, i_2, hh_2, d1, d2, d3, d4, d5, d6, d7, d8, rfl, rfl⟩
    obtain rfl := nI_inj (c2.symm.trans d2) (by omega) (by omega)
    obtain rfl := nI_inj (c4.symm.trans d4) (by omega) (by omega)
    obtain rfl := nI_inj (c6.symm.trans d6) (by omega) (by omega)
    exact ⟨rfl, rfl⟩
  · rintro a M1 ⟨q, i, hh, c1, c2, c3, c4, c5, c6, c7, c8, rfl, rfl⟩
    exact inv_take ho hN hX c1 c3 c7 c8 _
def SM_sew (M : tM) (x xh : Int32) : UInt64 → tM → Prop := fun a M' => ∃ (i kh : Nat), i < mO M ∧ x = nI i ∧ kh < mH M ∧ xh = nI kh ∧ mShut M = 0 ∧ oState (mod M i) = 1 ∧ a = fEnd (mClk M) (mha M kh).2 (mCnt M i) (mha M kh).1 ∧ M' = fSewM M i kh xh
set_option maxHeartbeats 1000000 in
theorem C_sew {l : Launch} {D : va_G} {cy : Nat → ClassId} {sad : Nat → Nat} {em : Nat} {s0 : State} {a0 : Array Value} (G : kG kSTR l D cy sad em s0 a0) (N3 : kN3 s0) {nb : Nat} {M : tM} {ad : Nat → Nat} {ct : Nat → Option va_E} (h0 : lI cy em nb M ad ct) (hnb : nb ≤ 512) (x xh : Int32) : KM l yL_sew [.codeWith yL_sew method_12_code 5 (some .int) [(0, 9, 12, 21), (0, 9, 16, 15)]] 8 144 3 18 [.ref (ad 1), .int x, .int xh, .ref (ad 91)] D s0 ad ct (oCd cy ad M (spG (¬ kIn x (mO M) ∨ ¬ kIn xh (mH M)) (∃ i, i < mO M ∧ x = nI i ∧ kIn xh (mH M) ∧ (¬ mShut M = 0 ∨ ¬ oState (mod M i) = 1)) (False) (SM_sew M x xh) M)) := by
  obtain ⟨⟨hm, hfc, tb, fl, fw, fh, fr, hT⟩, hlr, ho, hN, hX, hem, ⟨fo, h90⟩, fd, h91⟩ := id h0
  have hb := ho.1
  refine V_sew G N3 h0 (c_sew G hm ho hN hnb x xh) (fun v ad' ct1 hp => ?_) (fun E h => h)
  obtain ⟨i, kh, c1, c2, c3, c4, c5, c6, rfl, rfl, h1, h2, hr⟩ := hp
  exact ⟨_, fSewM M i kh xh, rfl, bC_sew h0.1 ho c1 c3 xh h1 h2 hr, (inv_sew ho hN hX hnb c1 c3 c6 xh).1, rfl, i, kh, c1, c2, c3, c4, c5, c6, rfl, rfl⟩
set_option maxHeartbeats 1000000 in
theorem R_sew {l : Launch} {D : va_G} {cy : Nat → ClassId} {sad : Nat → Nat} {em : Nat} {s0 : State} {a0 : Array Value} (G : kG kSTR l D cy sad em s0 a0) {nb : Nat} {M : tM} (ho : okM M) (hN : okN nb M) (hX : okX M) (hnb : nb ≤ 512) (x xh : Int32) (adC : Nat → Nat) (ctC : Nat → Option va_E) (hlR : lR cy adC ctC M) (hem : adC 0 = em) : KM l yX11_sew [.code yX11_sew prog_10_method_31_code 4 (some .double)] 6 190 1 4 [.ref (adC 100), .int x, .int xh] D s0 adC ctC (oRd cy adC ctC (spG (¬ kIn x (mO M) ∨ ¬ kIn xh (mH M)) (∃ i, i < mO M ∧ x = nI i ∧ kIn xh (mH M) ∧ (¬ mShut M = 0 ∨ ¬ oState (mod M i) = 1)) (False) (SM_sew M x xh) M)) := by
  obtain ⟨⟨th, sm, hm0⟩, hL0, hF, h198⟩ := id hlR
  have hb := ho.1
  refine KM.mono (r_sew G hm0 hL0 ho hlR.hfr hN hnb x xh) (fun v ad' ct' hp => ?_)
  obtain ⟨b, rfl, rfl, hc⟩ := hp
  rcases hc with ⟨f, h1, hk⟩ | ⟨f, h1, hk⟩ | ⟨i, kh, c1, c2, c3, c4, c5, c6, rfl, hs, h1, h2, hr⟩
  · exact oRd_no hlR h1 hk (Or.inl ⟨f, rfl⟩)
  · exact oRd_no hlR h1 hk (Or.inr (Or.inl ⟨f, rfl⟩))
  · have hz := bR_sew hlR ho c1 c3 c6 xh hs h1 h2 hr
    exact oRd_yes (MR := fSewM M i kh xh) (hs) hz.1 hz.2 (rfl) ⟨i, kh, c1, c2, c3, c4, c5, c6, rfl, rfl⟩
theorem U_sew {nb : Nat} {M : tM} (ho : okM M) (hN : okN nb M) (hX : okX M) (hnb : nb ≤ 512) (x xh : Int32) : spOk nb (spG (¬ kIn x (mO M) ∨ ¬ kIn xh (mH M)) (∃ i, i < mO M ∧ x = nI i ∧ kIn xh (mH M) ∧ (¬ mShut M = 0 ∨ ¬ oState (mod M i) = 1)) (False) (SM_sew M x xh) M) := by
  have hv : okM M ∧ okN (nb + 1) M ∧ okX M := ⟨ho, hN.mono (Nat.le_succ _), hX⟩
  have hb := ho.1
  refine spG_ok (fun f ⟨i, g1, g2, g3, _⟩ => f.elim (fun z => z ⟨i, g1, g2⟩) (fun z => z g3)) (fun _ z => z.elim) (fun _ z => z.elim) ?_ ?_ ?_ ?_ hv ?_
  · rintro f a M' ⟨i, kh, c1, c2, c3, c4, -⟩
    exact f.elim (fun z => z ⟨i, c1, c2⟩) (fun z => z ⟨kh, c3, c4⟩)
  · rintro ⟨i2, g1, g2, g3, g4⟩ a M' ⟨i, kh, c1, c2, c3, c4, c5, c6, -, -⟩
    have hb := ho.1
    obtain rfl := nI_inj (c2.symm.trans g2) (by omega) (by omega)
    exact g4.elim (fun z => z c5) (fun z => z c6)
  · exact fun f _ _ _ => f.elim
  · rintro a M1 b M2 ⟨i, kh, c1, c2, c3, c4, c5, c6, rfl, rfl⟩ ⟨i_2, kh_2, d1, d2, d3, d4, d5, d6, rfl, rfl⟩
    obtain rfl := nI_inj (c2.symm.trans d2) (by omega) (by omega)
    obtain rfl := nI_inj (c4.symm.trans d4) (by omega) (by omega)
    exact ⟨rfl, rfl⟩
  · rintro a M1 ⟨i, kh, c1, c2, c3, c4, c5, c6, rfl, rfl⟩
    exact inv_sew ho hN hX hnb c1 c3 c6 xh
def SM_fit (M : tM) (x : Int32) : Int32 → tM → Prop := fun a M' => ∃ (i : Nat), i < mO M ∧ x = nI i ∧ mShut M = 0 ∧ oState (mod M i) = 2 ∧ ((FP.dcmp (oReady (mod M i)) (mClk M) = some .gt ∧ a = -2 ∧ M' = M) ∨ (¬ FP.dcmp (oReady (mod M i)) (mClk M) = some .gt ∧ a = fJudge M i ∧ M' = fFitM M i))
set_option maxHeartbeats 1000000 in
theorem C_fit {l : Launch} {D : va_G} {cy : Nat → ClassId} {sad : Nat → Nat} {em : Nat} {s0 : State} {a0 : Array Value} (G : kG kSTR l D cy sad em s0 a0) (N3 : kN3 s0) {nb : Nat} {M : tM} {ad : Nat → Nat} {ct : Nat → Option va_E} (h0 : lI cy em nb M ad ct) (hnb : nb ≤ 512) (x : Int32) : KM l yL_fit [.codeWith yL_fit method_13_code 4 (some .int) [(0, 9, 12, 21), (0, 9, 15, 15)]] 8 143 2 12 [.ref (ad 1), .int x, .ref (ad 90)] D s0 ad ct (oCi cy ad M (spG (¬ kIn x (mO M)) (∃ i, i < mO M ∧ x = nI i ∧ (¬ mShut M = 0 ∨ ¬ oState (mod M i) = 2)) (False) (SM_fit M x) M)) := by
  obtain ⟨⟨hm, hfc, tb, fl, fw, fh, fr, hT⟩, hlr, ho, hN, hX, hem, ⟨fo, h90⟩, fd, h91⟩ := id h0
  have hb := ho.1
  refine V_fit G N3 h0 (c_fit G hm ho hN x) (fun v ad' ct1 hp => ?_) (fun E h => h)
  obtain ⟨i, c1, c2, c3, c4, rfl, hz⟩ := hp
  rcases hz with ⟨g, rfl, rfl⟩ | ⟨g, rfl, h1, h2, hr⟩
  · exact ⟨_, M, rfl, ⟨h0.1, kFr.rf⟩, ho, rfl, i, c1, c2, c3, c4, Or.inl ⟨g, rfl, rfl⟩⟩
  · exact ⟨_, fFitM M i, rfl, bC_shOr h0.1 ho c1 _ _ rfl h1 h2 hr, (inv_fit ho hN hX c1 c4).1, rfl, i, c1, c2, c3, c4, Or.inr ⟨g, rfl, rfl⟩⟩
set_option maxHeartbeats 1000000 in
theorem R_fit {l : Launch} {D : va_G} {cy : Nat → ClassId} {sad : Nat → Nat} {em : Nat} {s0 : State} {a0 : Array Value} (G : kG kSTR l D cy sad em s0 a0) {nb : Nat} {M : tM} (ho : okM M) (hN : okN nb M) (hX : okX M) (hnb : nb ≤ 512) (x : Int32) (adC : Nat → Nat) (ctC : Nat → Option va_E) (hlR : lR cy adC ctC M) (hem : adC 0 = em) : KM l yX11_fit [.code yX11_fit prog_10_method_33_code 5 (some .int)] 7 240 0 0 [.ref (adC 100), .int x] D s0 adC ctC (oRi cy adC ctC (spG (¬ kIn x (mO M)) (∃ i, i < mO M ∧ x = nI i ∧ (¬ mShut M = 0 ∨ ¬ oState (mod M i) = 2)) (False) (SM_fit M x) M)) := by
  obtain ⟨⟨th, sm, hm0⟩, hL0, hF, h198⟩ := id hlR
  have hb := ho.1
  refine KM.mono (r_fit G hm0 hL0 ho hlR.hfr hN x) (fun v ad' ct' hp => ?_)
  obtain ⟨b, rfl, rfl, hc⟩ := hp
  rcases hc with ⟨f, h1, hk⟩ | ⟨f, h1, hk⟩ | ⟨i, c1, c2, c3, c4, hz⟩
  · exact oRi_no hlR h1 hk (Or.inl ⟨f, rfl⟩)
  · exact oRi_no hlR h1 hk (Or.inr (Or.inl ⟨f, rfl⟩))
  · rcases hz with ⟨g, rfl, h1, hk⟩ | ⟨g, rfl, hs, h1, hr⟩
    · exact oRi_yes h1 (hlR.th h1 hk) (fun j hj => ⟨rfl, hk j (by omega)⟩) rfl ⟨i, c1, c2, c3, c4, Or.inl ⟨g, rfl, rfl⟩⟩
    · have hso : oState (fFitO M i) ≠ 0 := by
        show (if fJudge M i = 3 then 5 else 3) ≠ 0
        split <;> decide
      have hz := bR_shOr hlR ho c1 (fFitC M i, M.2.1.2) (fFitO M i) (by rw [c4]; decide) hso rfl rfl hs h1 hr
      exact oRi_yes (MR := fFitM M i) hs hz.1 hz.2 rfl ⟨i, c1, c2, c3, c4, Or.inr ⟨g, rfl, rfl⟩⟩
theorem U_fit {nb : Nat} {M : tM} (ho : okM M) (hN : okN nb M) (hX : okX M) (hnb : nb ≤ 512) (x : Int32) : spOk nb (spG (¬ kIn x (mO M)) (∃ i, i < mO M ∧ x = nI i ∧ (¬ mShut M = 0 ∨ ¬ oState (mod M i) = 2)) (False) (SM_fit M x) M) := by
  have hv : okM M ∧ okN (nb + 1) M ∧ okX M := ⟨ho, hN.mono (Nat.le_succ _), hX⟩
  have hb := ho.1
  refine spG_ok (fun f ⟨i, g1, g2, _⟩ => f ⟨i, g1, g2⟩) (fun _ z => z.elim) (fun _ z => z.elim) ?_ ?_ ?_ ?_ hv ?_
  · rintro f a M' ⟨i, c1, c2, -⟩
    exact f ⟨i, c1, c2⟩
  · rintro ⟨i2, g1, g2, g4⟩ a M' ⟨i, c1, c2, c5, c6, -⟩
    have hb := ho.1
    obtain rfl := nI_inj (c2.symm.trans g2) (by omega) (by omega)
    exact g4.elim (fun z => z c5) (fun z => z c6)
  · exact fun f _ _ _ => f.elim
  · rintro a M1 b M2 ⟨i, c1, c2, c3, c4, h⟩ ⟨i2, d1, d2, d3, d4, h2⟩
    have hb := ho.1
    obtain rfl := nI_inj (c2.symm.trans d2) (by omega) (by omega)
    rcases h with ⟨g, rfl, rfl⟩ | ⟨g, rfl, rfl⟩ <;> rcases h2 with ⟨g2, rfl, rfl⟩ | ⟨g2, rfl, rfl⟩
    · exact ⟨rfl, rfl⟩
    · exact absurd g g2
    · exact absurd g2 g
    · exact ⟨rfl, rfl⟩
  · rintro a M1 ⟨i, c1, c2, c3, c4, h⟩
    rcases h with ⟨g, rfl, rfl⟩ | ⟨g, rfl, rfl⟩
    · exact hv
    · exact inv_fit ho hN hX c1 c4
def SM_give (M : tM) (x : Int32) : Int32 → tM → Prop := fun a M' => ∃ (i : Nat), i < mO M ∧ x = nI i ∧ mShut M = 0 ∧ oState (mod M i) = 3 ∧ a = fGive M i ∧ M' = fGiveM M i
set_option maxHeartbeats 1000000 in
theorem C_give {l : Launch} {D : va_G} {cy : Nat → ClassId} {sad : Nat → Nat} {em : Nat} {s0 : State} {a0 : Array Value} (G : kG kSTR l D cy sad em s0 a0) (N3 : kN3 s0) {nb : Nat} {M : tM} {ad : Nat → Nat} {ct : Nat → Option va_E} (h0 : lI cy em nb M ad ct) (hnb : nb ≤ 512) (x : Int32) : KM l yL_give [.codeWith yL_give method_14_code 4 (some .int) [(0, 9, 12, 21), (0, 9, 15, 15)]] 8 144 2 12 [.ref (ad 1), .int x, .ref (ad 90)] D s0 ad ct (oCi cy ad M (spG (¬ kIn x (mO M)) (∃ i, i < mO M ∧ x = nI i ∧ (¬ mShut M = 0 ∨ ¬ oState (mod M i) = 3)) (False) (SM_give M x) M)) := by
  obtain ⟨⟨hm, hfc, tb, fl, fw, fh, fr, hT⟩, hlr, ho, hN, hX, hem, ⟨fo, h90⟩, fd, h91⟩ := id h0
  have hb := ho.1
  refine V_give G N3 h0 (c_give G hm ho hN x) (fun v ad' ct1 hp => ?_) (fun E h => h)
  obtain ⟨i, c1, c2, c3, c4, rfl, rfl, h1, h2, hr⟩ := hp
  exact ⟨_, fGiveM M i, rfl, bC_shOr h0.1 ho c1 _ _ rfl h1 h2 hr, (inv_give ho hN hX c1 c4).1, rfl, i, c1, c2, c3, c4, rfl, rfl⟩
set_option maxHeartbeats 1000000 in
theorem R_give {l : Launch} {D : va_G} {cy : Nat → ClassId} {sad : Nat → Nat} {em : Nat} {s0 : State} {a0 : Array Value} (G : kG kSTR l D cy sad em s0 a0) {nb : Nat} {M : tM} (ho : okM M) (hN : okN nb M) (hX : okX M) (hnb : nb ≤ 512) (x : Int32) (adC : Nat → Nat) (ctC : Nat → Option va_E) (hlR : lR cy adC ctC M) (hem : adC 0 = em) : KM l yX11_give [.code yX11_give prog_10_method_34_code 6 (some .int)] 7 1540 1 4 [.ref (adC 100), .int x] D s0 adC ctC (oRi cy adC ctC (spG (¬ kIn x (mO M)) (∃ i, i < mO M ∧ x = nI i ∧ (¬ mShut M = 0 ∨ ¬ oState (mod M i) = 3)) (False) (SM_give M x) M)) := by
  obtain ⟨⟨th, sm, hm0⟩, hL0, hF, h198⟩ := id hlR
  have hb := ho.1
  refine KM.mono (r_give G hm0 hL0 ho hlR.hfr hN (fun i hi z => (hX.2.1 i hi).2 (by rw [z]; decide)) x) (fun v ad' ct' hp => ?_)
  obtain ⟨b, rfl, rfl, hc⟩ := hp
  rcases hc with ⟨f, h1, hk⟩ | ⟨f, h1, hk⟩ | ⟨i, c1, c2, c3, c4, rfl, hs, h1, hr⟩
  · exact oRi_no hlR h1 hk (Or.inl ⟨f, rfl⟩)
  · exact oRi_no hlR h1 hk (Or.inr (Or.inl ⟨f, rfl⟩))
  · have hz := bR_shOr hlR ho c1 (mClk M, mPur M + fGive M i, M.2.1.2.2) (fGiveO M i) (by rw [c4]; decide) (show (4 : Nat) ≠ 0 by decide) rfl rfl hs h1 hr
    exact oRi_yes (MR := fGiveM M i) (hs) hz.1 hz.2 (rfl) ⟨i, c1, c2, c3, c4, rfl, rfl⟩
theorem U_give {nb : Nat} {M : tM} (ho : okM M) (hN : okN nb M) (hX : okX M) (hnb : nb ≤ 512) (x : Int32) : spOk nb (spG (¬ kIn x (mO M)) (∃ i, i < mO M ∧ x = nI i ∧ (¬ mShut M = 0 ∨ ¬ oState (mod M i) = 3)) (False) (SM_give M x) M) := by
  have hv : okM M ∧ okN (nb + 1) M ∧ okX M := ⟨ho, hN.mono (Nat.le_succ _), hX⟩
  have hb := ho.1
  refine spG_ok (fun f ⟨i, g1, g2, _⟩ => f ⟨i, g1, g2⟩) (fun _ z => z.elim) (fun _ z => z.elim) ?_ ?_ ?_ ?_ hv ?_
  · rintro f a M' ⟨i, c1, c2, -⟩
    exact f ⟨i, c1, c2⟩
  · rintro ⟨i2, g1, g2, g4⟩ a M' ⟨i, c1, c2, c5, c6, -⟩
    have hb := ho.1
    obtain rfl := nI_inj (c2.symm.trans g2) (by omega) (by omega)
    exact g4.elim (fun z => z c5) (fun z => z c6)
  · exact fun f _ _ _ => f.elim
  · rintro a M1 b M2 ⟨i, c1, c2, c3, c4, rfl, rfl⟩ ⟨i_2, d1, d2, d3, d4, rfl, rfl⟩
    obtain rfl := nI_inj (c2.symm.trans d2) (by omega) (by omega)
    exact ⟨rfl, rfl⟩
  · rintro a M1 ⟨i, c1, c2, c3, c4, rfl, rfl⟩
    exact inv_give ho hN hX c1 c4
def SM_pass (M : tM) (x : Int32) : UInt64 → tM → Prop := fun a M' => ∃ (k : Nat), 1 ≤ k ∧ k ≤ 100 ∧ x = nI k ∧ a = fSpend (mClk M) (FP.i2d (nI k)) ∧ M' = sSh M (fSpend (mClk M) (FP.i2d (nI k)), M.2.1.2)
set_option maxHeartbeats 1000000 in
theorem C_pass {l : Launch} {D : va_G} {cy : Nat → ClassId} {sad : Nat → Nat} {em : Nat} {s0 : State} {a0 : Array Value} (G : kG kSTR l D cy sad em s0 a0) (N3 : kN3 s0) {nb : Nat} {M : tM} {ad : Nat → Nat} {ct : Nat → Option va_E} (h0 : lI cy em nb M ad ct) (hnb : nb ≤ 512) (x : Int32) : KM l yL_pass [.codeWith yL_pass method_15_code 4 (some .int) [(0, 8, 11, 13)]] 7 111 1 6 [.ref (ad 1), .int x, .ref (ad 91)] D s0 ad ct (oCd cy ad M (spG (x < 1 ∨ 100 < x) (False) (False) (SM_pass M x) M)) := by
  obtain ⟨⟨hm, hfc, tb, fl, fw, fh, fr, hT⟩, hlr, ho, hN, hX, hem, ⟨fo, h90⟩, fd, h91⟩ := id h0
  have hb := ho.1
  refine V_pass G N3 h0 (c_pass G hm ho hN x) (fun v ad' ct1 hp => ?_) (fun E h => h)
  obtain ⟨k, c1, c2, c3, rfl, rfl, h1, hr⟩ := hp
  exact ⟨_, sSh M (fSpend (mClk M) (FP.i2d (nI k)), M.2.1.2), rfl, bC_sSh h0.1 ho _ h1 hr, (inv_pass ho hN hX c2).1, rfl, k, c1, c2, c3, rfl, rfl⟩
set_option maxHeartbeats 1000000 in
theorem R_pass {l : Launch} {D : va_G} {cy : Nat → ClassId} {sad : Nat → Nat} {em : Nat} {s0 : State} {a0 : Array Value} (G : kG kSTR l D cy sad em s0 a0) {nb : Nat} {M : tM} (ho : okM M) (hN : okN nb M) (hX : okX M) (hnb : nb ≤ 512) (x : Int32) (adC : Nat → Nat) (ctC : Nat → Option va_E) (hlR : lR cy adC ctC M) (hem : adC 0 = em) : KM l yX11_pass [.code yX11_pass prog_10_method_35_code 2 (some .double)] 2 60 0 0 [.ref (adC 100), .int x] D s0 adC ctC (oRd cy adC ctC (spG (x < 1 ∨ 100 < x) (False) (False) (SM_pass M x) M)) := by
  obtain ⟨⟨th, sm, hm0⟩, hL0, hF, h198⟩ := id hlR
  have hb := ho.1
  refine KM.mono (r_pass G hm0 hL0 ho hlR.hfr hN x) (fun v ad' ct' hp => ?_)
  obtain ⟨b, rfl, rfl, hc⟩ := hp
  rcases hc with ⟨f, h1, hk⟩ | ⟨k, c1, c2, c3, rfl, hs, hr⟩
  · exact oRd_no hlR h1 hk (Or.inl ⟨f, rfl⟩)
  · have hz := bR_sSh hlR ho _ hs hr
    exact oRd_yes (MR := sSh M (fSpend (mClk M) (FP.i2d (nI k)), M.2.1.2)) (hs) hz.1 hz.2 (rfl) ⟨k, c1, c2, c3, rfl, rfl⟩
theorem U_pass {nb : Nat} {M : tM} (ho : okM M) (hN : okN nb M) (hX : okX M) (hnb : nb ≤ 512) (x : Int32) : spOk nb (spG (x < 1 ∨ 100 < x) (False) (False) (SM_pass M x) M) := by
  have hv : okM M ∧ okN (nb + 1) M ∧ okX M := ⟨ho, hN.mono (Nat.le_succ _), hX⟩
  have hb := ho.1
  refine spG_ok (fun _ z => z.elim) (fun _ z => z.elim) (fun _ z => z.elim) ?_ ?_ ?_ ?_ hv ?_
  · rintro f a M' ⟨w, c1, c2, rfl, -⟩
    exact (rng_no (a := 1) (b := 100) c1 c2 (by decide)) f
  · exact fun f _ _ _ => f.elim
  · exact fun f _ _ _ => f.elim
  · rintro a M1 b M2 ⟨k, c1, c2, c3, rfl, rfl⟩ ⟨k_2, d1, d2, d3, rfl, rfl⟩
    obtain rfl := nI_inj (c3.symm.trans d3) (by omega) (by omega)
    exact ⟨rfl, rfl⟩
  · rintro a M1 ⟨k, c1, c2, c3, rfl, rfl⟩
    exact inv_pass ho hN hX c2
def SM_cut (M : tM) (x xo xc : Int32) : UInt64 → tM → Prop := fun a M' => ∃ (i : Nat) (o : Option Nat) (jc : Nat), i < mO M ∧ x = nI i ∧ kOth xo (mO M) o ∧ jc < mC M ∧ xc = nI jc ∧ ¬ x = xo ∧ mShut M = 0 ∧ oState (mod M i) = 0 ∧ (∀ i2, o = some i2 → oState (mod M i2) = 0) ∧ ((fSpo M i o jc = none ∧ a = 13835058055282163712 ∧ M' = M) ∨ ∃ r, fSpo M i o jc = some r ∧ ((FP.dcmp (mcl M jc).2.1 r.2.2.2 = some .lt ∧ a = 13837309855095848960 ∧ M' = M) ∨ (¬ FP.dcmp (mcl M jc).2.1 r.2.2.2 = some .lt ∧ a = FP.dsub (mcl M jc).2.1 r.2.2.2 ∧ M' = fC4 M i jc r.2.2.2 (fNdK o r.2.2.2) o)))
set_option maxHeartbeats 1000000 in
theorem C_cut {l : Launch} {D : va_G} {cy : Nat → ClassId} {sad : Nat → Nat} {em : Nat} {s0 : State} {a0 : Array Value} (G : kG kSTR l D cy sad em s0 a0) (N3 : kN3 s0) {nb : Nat} {M : tM} {ad : Nat → Nat} {ct : Nat → Option va_E} (h0 : lI cy em nb M ad ct) (hnb : nb ≤ 512) (x xo xc : Int32) : KM l yL_cut [.codeWith yL_cut method_11_code 6 (some .int) [(0, 11, 14, 21), (0, 11, 18, 13), (0, 11, 22, 15)]] 9 179 5 30 [.ref (ad 1), .int x, .int xo, .int xc, .ref (ad 91)] D s0 ad ct (oCd cy ad M (spG (¬ kIn x (mO M) ∨ (¬ xo = -1 ∧ ¬ kIn xo (mO M)) ∨ ¬ kIn xc (mC M)) (kIn x (mO M) ∧ (xo = -1 ∨ kIn xo (mO M)) ∧ kIn xc (mC M) ∧ x = xo) (∃ i o, i < mO M ∧ x = nI i ∧ kOth xo (mO M) o ∧ kIn xc (mC M) ∧ ¬ x = xo ∧ (¬ mShut M = 0 ∨ ¬ oState (mod M i) = 0 ∨ ∃ i2, o = some i2 ∧ ¬ oState (mod M i2) = 0)) (SM_cut M x xo xc) M)) := by
  obtain ⟨⟨hm, hfc, tb, fl, fw, fh, fr, hT⟩, hlr, ho, hN, hX, hem, ⟨fo, h90⟩, fd, h91⟩ := id h0
  have hb := ho.1
  refine V_cut G N3 h0 (c_cut G hm ho x xo xc hT hN) (fun v ad' ct1 hp => ?_) (fun E h => h)
  obtain ⟨i, o, jc, c1, c2, c3, c4, c5, c6, c7, c8, c9, rfl, hz, hT2⟩ := hp
  rcases hz with ⟨g, rfl, hk⟩ | ⟨r, g, hz⟩
  · exact ⟨_, M, rfl, ⟨h0.1.out ho hk hT2, fun j hj => ⟨rfl, hk j (by omega)⟩⟩, ho, rfl, i, o, jc, c1, c2, c3, c4, c5, c6, c7, c8, c9, Or.inl ⟨g, rfl, rfl⟩⟩
  · rcases hz with ⟨g2, rfl, hk⟩ | ⟨g2, rfl, h1, hr⟩
    · exact ⟨_, M, rfl, ⟨h0.1.out ho hk hT2, fun j hj => ⟨rfl, hk j (by omega)⟩⟩, ho, rfl, i, o, jc, c1, c2, c3, c4, c5, c6, c7, c8, c9, Or.inr ⟨r, g, Or.inl ⟨g2, rfl, rfl⟩⟩⟩
    · exact ⟨_, fC4 M i jc r.2.2.2 (fNdK o r.2.2.2) o, rfl, bC_cut h0.1 ho c1 c4 (kOth_lt c3) h1 hT2 hr, (inv_cut ho hN hX c1 c4 (kOth_lt c3) g g2).1, rfl, i, o, jc, c1, c2, c3, c4, c5, c6, c7, c8, c9, Or.inr ⟨r, g, Or.inr ⟨g2, rfl, rfl⟩⟩⟩
set_option maxHeartbeats 1000000 in
theorem R_cut {l : Launch} {D : va_G} {cy : Nat → ClassId} {sad : Nat → Nat} {em : Nat} {s0 : State} {a0 : Array Value} (G : kG kSTR l D cy sad em s0 a0) {nb : Nat} {M : tM} (ho : okM M) (hN : okN nb M) (hX : okX M) (hnb : nb ≤ 512) (x xo xc : Int32) (adC : Nat → Nat) (ctC : Nat → Option va_E) (hlR : lR cy adC ctC M) (hem : adC 0 = em) : KM l yX11_cut [.code yX11_cut prog_10_method_28_code 8 (some .double)] 9 1600 14 200 [.ref (adC 100), .int x, .int xo, .int xc] D s0 adC ctC (oRd cy adC ctC (spG (¬ kIn x (mO M) ∨ (¬ xo = -1 ∧ ¬ kIn xo (mO M)) ∨ ¬ kIn xc (mC M)) (kIn x (mO M) ∧ (xo = -1 ∨ kIn xo (mO M)) ∧ kIn xc (mC M) ∧ x = xo) (∃ i o, i < mO M ∧ x = nI i ∧ kOth xo (mO M) o ∧ kIn xc (mC M) ∧ ¬ x = xo ∧ (¬ mShut M = 0 ∨ ¬ oState (mod M i) = 0 ∨ ∃ i2, o = some i2 ∧ ¬ oState (mod M i2) = 0)) (SM_cut M x xo xc) M)) := by
  obtain ⟨⟨th, sm, hm0⟩, hL0, hF, h198⟩ := id hlR
  have hb := ho.1
  refine KM.mono (r_cut G hm0 hL0 ho hF hem hlR.hfr hN (fun i hi z => (hX.2.1 i hi).1 z) x xo xc) (fun v ad' ct' hp => ?_)
  obtain ⟨b, rfl, hc⟩ := hp
  rcases hc with ⟨rfl, hc⟩ | ⟨i, o, jc, c1, c2, c3, c4, c5, c6, c7, c8, c9, hz⟩
  · rcases hc with ⟨f, h1, hk⟩ | ⟨f, h1, hk⟩ | ⟨f, h1, hk⟩
    · exact oRd_no hlR h1 hk (Or.inl ⟨f, rfl⟩)
    · exact oRd_no hlR h1 hk (Or.inr (Or.inl ⟨f, rfl⟩))
    · exact oRd_no hlR h1 hk (Or.inr (Or.inr ⟨f, rfl⟩))
  · rcases hz with ⟨g, rfl, rfl, h1, hk⟩ | ⟨r, g, hz⟩
    · exact oRd_yes h1 (hlR.th h1 hk) (fun j hj => ⟨rfl, hk j (by omega)⟩) rfl ⟨i, o, jc, c1, c2, c3, c4, c5, c6, c7, c8, c9, Or.inl ⟨g, rfl, rfl⟩⟩
    · rcases hz with ⟨g2, rfl, rfl, h1, hk⟩ | ⟨g2, rfl, had, hs, h1, hr⟩
      · exact oRd_yes h1 (hlR.th h1 hk) (fun j hj => ⟨rfl, hk j (by omega)⟩) rfl ⟨i, o, jc, c1, c2, c3, c4, c5, c6, c7, c8, c9, Or.inr ⟨r, g, Or.inl ⟨g2, rfl, rfl⟩⟩⟩
      · have hz := bR_cut hlR ho c1 c4 (kOth_lt c3) had hs h1 hr
        exact oRd_yes hs hz.1 hz.2 (had 100 (by omega) (fun i2 e => by have := kOth_lt c3 i2 e; omega)) ⟨i, o, jc, c1, c2, c3, c4, c5, c6, c7, c8, c9, Or.inr ⟨r, g, Or.inr ⟨g2, rfl, rfl⟩⟩⟩
theorem U_cut {nb : Nat} {M : tM} (ho : okM M) (hN : okN nb M) (hX : okX M) (hnb : nb ≤ 512) (x xo xc : Int32) : spOk nb (spG (¬ kIn x (mO M) ∨ (¬ xo = -1 ∧ ¬ kIn xo (mO M)) ∨ ¬ kIn xc (mC M)) (kIn x (mO M) ∧ (xo = -1 ∨ kIn xo (mO M)) ∧ kIn xc (mC M) ∧ x = xo) (∃ i o, i < mO M ∧ x = nI i ∧ kOth xo (mO M) o ∧ kIn xc (mC M) ∧ ¬ x = xo ∧ (¬ mShut M = 0 ∨ ¬ oState (mod M i) = 0 ∨ ∃ i2, o = some i2 ∧ ¬ oState (mod M i2) = 0)) (SM_cut M x xo xc) M) := by
  have hv : okM M ∧ okN (nb + 1) M ∧ okX M := ⟨ho, hN.mono (Nat.le_succ _), hX⟩
  have hb := ho.1
  refine spG_ok (fun f g => f.elim (fun z => z g.1) (fun z => z.elim (fun z => g.2.1.elim z.1 z.2) (fun z => z g.2.2.1))) (fun f ⟨i, o, g1, g2, g3, g4, _⟩ => f.elim (fun z => z ⟨i, g1, g2⟩) (fun z => z.elim (fun z => g3.elim (fun w => z.1 w.1) (fun ⟨i2, w1, w2, _⟩ => z.2 ⟨i2, w1, w2⟩)) (fun z => z g4))) (fun f ⟨i, o, g1, g2, g3, g4, g5, _⟩ => g5 f.2.2.2) ?_ ?_ ?_ ?_ hv ?_
  · rintro f a M' ⟨i, o, jc, c1, c2, c3, c4, c5, -⟩
    exact f.elim (fun z => z ⟨i, c1, c2⟩) (fun z => z.elim (fun z => c3.elim (fun w => z.1 w.1) (fun ⟨i2, w1, w2, _⟩ => z.2 ⟨i2, w1, w2⟩)) (fun z => z ⟨jc, c4, c5⟩))
  · rintro f a M' ⟨i, o, jc, c1, c2, c3, c4, c5, c6, -⟩
    exact c6 f.2.2.2
  · rintro ⟨i2, o2, g1, g2, g3, g4, g5, g6⟩ a M' ⟨i, o, jc, c1, c2, c3, c4, c5, c6, c7, c8, c9, -⟩
    have hb := ho.1
    obtain rfl := nI_inj (c2.symm.trans g2) (by omega) (by omega)
    obtain rfl := kOth_inj c3 g3 (by omega)
    exact g6.elim (fun z => z c7) (fun z => z.elim (fun z => z c8) (fun ⟨i2, e, z⟩ => z (c9 i2 e)))
  · rintro a M1 b M2 ⟨i, o, jc, c1, c2, c3, c4, c5, c6, c7, c8, c9, h⟩ ⟨i2, o2, jc2, d1, d2, d3, d4, d5, d6, d7, d8, d9, h2⟩
    have hb := ho.1
    obtain rfl := nI_inj (c2.symm.trans d2) (by omega) (by omega)
    obtain rfl := nI_inj (c5.symm.trans d5) (by omega) (by omega)
    obtain rfl := kOth_inj c3 d3 (by omega)
    rcases h with ⟨g, rfl, rfl⟩ | ⟨r, g, h⟩ <;> rcases h2 with ⟨g2, rfl, rfl⟩ | ⟨r2, g2, h2⟩
    · exact ⟨rfl, rfl⟩
    · exact absurd (g.symm.trans g2) (by simp)
    · exact absurd (g.symm.trans g2) (by simp)
    · obtain rfl := Option.some.inj (g.symm.trans g2)
      rcases h with ⟨g, rfl, rfl⟩ | ⟨g, rfl, rfl⟩ <;> rcases h2 with ⟨g2, rfl, rfl⟩ | ⟨g2, rfl, rfl⟩
      · exact ⟨rfl, rfl⟩
      · exact absurd g g2
      · exact absurd g2 g
      · exact ⟨rfl, rfl⟩
  · rintro a M1 ⟨i, o, jc, c1, c2, c3, c4, c5, c6, c7, c8, c9, h⟩
    rcases h with ⟨g, rfl, rfl⟩ | ⟨r, g, h⟩
    · exact hv
    · rcases h with ⟨g2, rfl, rfl⟩ | ⟨g2, rfl, rfl⟩
      · exact hv
      · exact inv_cut ho hN hX c1 c4 (kOth_lt c3) g g2
