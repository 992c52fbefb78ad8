/-! cut -/
def fNdK (o : Option Nat) (nd : UInt64) : UInt64 := match o with
  | none => nd
  | some _ => FP.ddiv nd cD2
def fLaid (M : tM) (i : Nat) : Option Nat → Nat
  | none => mCnt M i
  | some i2 => mCnt M i + mCnt M i2
abbrev fCutC (M : tM) (jc : Nat) (nd : UInt64) : tCl := ((mcl M jc).1, FP.dsub (mcl M jc).2.1 nd, (mcl M jc).2.2)
def fC1 (M : tM) (jc : Nat) (nd : UInt64) : tM := sCl M jc (fCutC M jc nd)
def fC2 (M : tM) (i jc : Nat) (nd nk : UInt64) : tM := sOr (fC1 M jc nd) i (fCut (fC1 M jc nd) i (nI jc) (fCost (mcl M jc).2.2.2.2.2 nk) nk)
def fC3 (M : tM) (i jc : Nat) (nd nk : UInt64) : Option Nat → tM
  | none => fC2 M i jc nd nk
  | some i2 => sOr (fC2 M i jc nd nk) i2 (fCut (fC2 M i jc nd nk) i2 (nI jc) (fCost (mcl M jc).2.2.2.2.2 nk) nk)
def fC4 (M : tM) (i jc : Nat) (nd nk : UInt64) (o : Option Nat) : tM := sSh (fC3 M i jc nd nk o) (fSpend (mClk M) (FP.dmul cQuart (FP.i2d (nI (fLaid M i o)))), M.2.1.2)
theorem okM_fC1 {M : tM} (h : okM M) {jc : Nat} (hc : jc < mC M) (nd : UInt64) : okM (fC1 M jc nd) := okM_sCl h jc _ (h.2.1 jc hc)
theorem okM_fC2 {M : tM} (h : okM M) {i jc : Nat} (hi : i < mO M) (hc : jc < mC M) (nd nk : UInt64) : okM (fC2 M i jc nd nk) := okM_sOr (okM_fC1 h hc nd) hi _ rfl rfl (show 1 ≤ 5 by decide)
theorem okM_fC3 {M : tM} (h : okM M) {i jc : Nat} (hi : i < mO M) (hc : jc < mC M) (nd nk : UInt64) (o : Option Nat) (hoo : ∀ i2, o = some i2 → i2 < mO M) : okM (fC3 M i jc nd nk o) := by
  cases o with
  | none => exact okM_fC2 h hi hc nd nk
  | some i2 => exact okM_sOr (okM_fC2 h hi hc nd nk) (hoo i2 rfl) _ rfl rfl (show 1 ≤ 5 by decide)
theorem okM_fC4 {M : tM} (h : okM M) {i jc : Nat} (hi : i < mO M) (hc : jc < mC M) (nd nk : UInt64) (o : Option Nat) (hoo : ∀ i2, o = some i2 → i2 < mO M) : okM (fC4 M i jc nd nk o) := okM_fC3 h hi hc nd nk o hoo
theorem fSpo_ok {M : tM} (ho : okM M) {nb i jc : Nat} (hN : okN nb M) (hi : i < mO M) (hc : jc < mC M) {o : Option Nat} (hoo : ∀ i2, o = some i2 → i2 < mO M) {r : tAn} (e : fSpo M i o jc = some r) : dP 572 675200 r.2.2.2 ∧ dP 0 675200 (fNdK o r.2.2.2) ∧ (∀ i2, o = some i2 → vf_n64 (FP.ddiv r.2.2.2 cD2)) ∧ okCost (mcl M jc).2.2.2.2.2 (fNdK o r.2.2.2) := by
  have key : 0 < r.2.1 ∧ r.2.1 ≤ 40 ∧ dP (572 * r.2.1) (16880 * r.2.1) r.2.2.2 ∧ dP 0 (3792757 * 40) r.1 := by
    cases o with
    | none => exact fSp1_ok ho hN hi hc e
    | some i2 => exact fSp2_ok ho hN hi (hoo i2 rfl) hc e
  obtain ⟨a1, a2, a3, a4⟩ := key
  have b1 : dP 572 675200 r.2.2.2 := a3.wk (by omega) (by omega)
  have b2 : dP 0 675200 (FP.ddiv r.2.2.2 cD2) := (dP_div (lo := 0) (hi := 337600) b1 dP_c2 (by omega) (by omega) (by omega) (by omega)).wk (Nat.le_refl _) (by omega)
  have b3 : dP 0 675200 (fNdK o r.2.2.2) := by
    cases o with
    | none => exact b1.wk (Nat.zero_le _) (Nat.le_refl _)
    | some i2 => exact b2
  exact ⟨b1, b3, fun _ _ => vf_of b2.nn, okCost_of (ho.2.1 jc hc).2.2.2.2 b3 (by omega)⟩
theorem quart_ok {M : tM} (ho : okM M) {nb i : Nat} (hN : okN nb M) (hi : i < mO M) {o : Option Nat} (hoo : ∀ i2, o = some i2 → i2 < mO M) : vf_n64 (FP.dmul cQuart (FP.i2d (nI (fLaid M i o)))) ∧ vf_n64 (FP.dadd (mClk M) (FP.dmul cQuart (FP.i2d (nI (fLaid M i o))))) := by
  have c1 := mCnt_20 ho hi
  have c2 : fLaid M i o ≤ 40 := by
    cases o with
    | none => show mCnt M i ≤ 40; omega
    | some i2 => have := mCnt_20 ho (hoo i2 rfl); show mCnt M i + mCnt M i2 ≤ 40; omega
  have a : dP 0 2560 (FP.dmul cQuart (FP.i2d (nI (fLaid M i o)))) := dP_mul (lo := 0) (hi := 2560) dP_quart (dP_i2d (by omega)) (by omega) (by omega) (by omega)
  exact ⟨vf_of a.nn, spend_ok hN.2.1 a (by omega)⟩

set_option maxHeartbeats 4000000 in
set_option maxRecDepth 100000 in
/-- TailorBench.lay  -/
theorem c_qlay {l : Launch} {D : va_G} {cy : Nat → ClassId} {sad : Nat → Nat} {em : Nat} {s0 : State} {a0 : Array Value} (G : kG kSTR l D cy sad em s0 a0) {ad : Nat → Nat} {ct : Nat → Option va_E} {M : tM} (hm : RepC cy ad ct M) (ho : okM M) (x xo xc wh : Int32) {tb : tTb} {fl fw fh fr : Nat → UInt64} (hT : RepT cy ad ct tb fl fw fh fr) {nb : Nat} (hN : okN nb M) :
    KX l yX7_lay [.code yX7_lay prog_1_method_25_code 8 (some .double)] 8 150 5 30 [.ref (ad 1), .int x, .int xo, .int xc, .int wh] D s0 ad ct (fun v ad' ct' => ∃ (i : Nat) (o : Option Nat) (jc wk : Nat), i < mO M ∧ x = nI i ∧ kOth xo (mO M) o ∧ jc < mC M ∧ xc = nI jc ∧ ¬ x = xo ∧ wk < 4 ∧ wh = nI wk ∧ v = some (.double (fLayV M i o jc wk)) ∧ ad' = ad ∧ kOut ct ct' ∧ ∃ (tb : tTb) (fl fw fh fr : Nat → UInt64), RepT cy ad ct' tb fl fw fh fr) (fun E => (E = eIdx ∧ (¬ kIn x (mO M) ∨ (¬ xo = -1 ∧ ¬ kIn xo (mO M)) ∨ ¬ kIn xc (mC M))) ∨ (E = eArg ∧ kIn x (mO M) ∧ (xo = -1 ∨ kIn xo (mO M)) ∧ kIn xc (mC M) ∧ (x = xo ∨ ¬ kIn wh 4))) := by
  refine KX.of G (by decide) (Nat.le_of_ble_eq_true rfl) (Nat.le_of_ble_eq_true rfl) ?_
  intro p e s m args below meth c ls Q hQ X hin hL hW hS
  obtain ⟨hx, hb, hr, hml, hown, hlocks, hts, hq, hK, hI⟩ := X
  have hbn := ho.1
  have hs1 := hm.1
  have hts1 := hT.1
  refine lv_aload_n hx hb dX7_lay_0 rfl (hL.at 0 rfl) ?_
  refine lv_iload_n hx hb dX7_lay_1 rfl (hL.at 1 rfl) ?_
  refine k_callVX (q := (RX7, TX7, 15)) hx hb hml hown hts hK hI hS hW hL.1 (by first | assumption | exact up_s | (rw [up_n (by omega)]; first | assumption | exact up_s | (rw [up_n (by omega)]; first | assumption | exact up_s | (rw [up_n (by omega)]; first | assumption | exact up_s | (rw [up_n (by omega)]; first | assumption | exact up_s | (rw [up_n (by omega)]; first | assumption | exact up_s | (rw [up_n (by omega)]; first | assumption | exact up_s | (rw [up_n (by omega)]; first | assumption | exact up_s | (rw [up_n (by omega)]; first | assumption | exact up_s | (rw [up_n (by omega)]; first | assumption | exact up_s | (rw [up_n (by omega)]; first | assumption | exact up_s | (rw [up_n (by omega)]; first | assumption | exact up_s)))))))))))) rfl (c_orderAt G hm ho x) (m5 (gT_in q325 rfl) (gT_in q327 rfl) (gT_in q3 rfl) (gT_in q55 rfl) (gT_in q328 rfl)) rfl (show kpar yX7_orderAt 1 from ⟨by decide, by decide, by decide +kernel⟩) ⟨by decide, by decide⟩ (by show _ ≤ (5 : Nat); omega) (by show _ ≤ (30 : Nat); omega) rfl (by first | decide | exact Nat.le_of_ble_eq_true rfl) dX7_lay_2 (fun E ce q9 H locs hp hW hS hce hcv hcl => ?_) (fun v ad2 ct2 H locs hp hW hS => ?_)
  · rw [hQ]; exact k_out hown hlocks hin hW hS hce hcv hcl (by omega) (by omega) (Or.inl ⟨hp.1, Or.inl hp.2⟩)
  obtain ⟨i, hi, hxi, rfl, h1, h2⟩ := hp
  rw [h1, h2] at hW
  refine k_ast hx hb hL (i := 5) (by decide) dX7_lay_5 (fun ls hL => ?_)
  refine lv_aload_n hx hb dX7_lay_7 rfl (hL.at 0 rfl) ?_
  refine lv_iload_n hx hb dX7_lay_8 rfl (hL.at 2 rfl) ?_
  refine k_callVX (q := (RX7, TX7, 15)) hx hb hml hown hts hK hI hS hW hL.1 (by first | assumption | exact up_s | (rw [up_n (by omega)]; first | assumption | exact up_s | (rw [up_n (by omega)]; first | assumption | exact up_s | (rw [up_n (by omega)]; first | assumption | exact up_s | (rw [up_n (by omega)]; first | assumption | exact up_s | (rw [up_n (by omega)]; first | assumption | exact up_s | (rw [up_n (by omega)]; first | assumption | exact up_s | (rw [up_n (by omega)]; first | assumption | exact up_s | (rw [up_n (by omega)]; first | assumption | exact up_s | (rw [up_n (by omega)]; first | assumption | exact up_s | (rw [up_n (by omega)]; first | assumption | exact up_s | (rw [up_n (by omega)]; first | assumption | exact up_s)))))))))))) rfl (c_otherAt G hm ho xo) (m5 (gT_in q417 rfl) (gT_in q419 rfl) (gT_in q17 rfl) (gT_in q55 rfl) (gT_in q420 rfl)) rfl (show kpar yX7_otherAt 1 from ⟨by decide, by decide, by decide +kernel⟩) ⟨by decide, by decide⟩ (by show _ ≤ (5 : Nat); omega) (by show _ ≤ (30 : Nat); omega) rfl (by first | decide | exact Nat.le_of_ble_eq_true rfl) dX7_lay_9 (fun E ce q9 H locs hp hW hS hce hcv hcl => ?_) (fun v ad9 ct9 H locs hp hW hS => ?_)
  · rw [hQ]; exact k_out hown hlocks hin hW hS hce hcv hcl (by omega) (by omega) (Or.inl ⟨hp.1, Or.inr (Or.inl ⟨hp.2.1, hp.2.2⟩)⟩)
  obtain ⟨ho9, h1, h2⟩ := hp
  rw [h1, h2] at hW
  rcases ho9 with ⟨hxo, rfl⟩ | ⟨i2, hi2, hxo, rfl⟩
  · obtain ⟨o, hoth, hoo, hspo, hlo⟩ : ∃ o, kOth xo (mO M) o ∧ (∀ i2, o = some i2 → i2 < mO M) ∧ (∀ jc, fSpo M i o jc = fSp1 M i jc) ∧ True := ⟨none, Or.inl ⟨hxo, rfl⟩, (fun _ z => by cases z), fun _ => rfl, trivial⟩
    refine k_astN hx hb hL (i := 6) (by decide) dX7_lay_12 (fun ls hL => ?_)
    refine lv_aload_n hx hb dX7_lay_14 rfl (hL.at 0 rfl) ?_
    refine lv_iload_n hx hb dX7_lay_15 rfl (hL.at 3 rfl) ?_
    refine k_callVX (q := (RX7, TX7, 15)) hx hb hml hown hts hK hI hS hW hL.1 (by first | assumption | exact up_s | (rw [up_n (by omega)]; first | assumption | exact up_s | (rw [up_n (by omega)]; first | assumption | exact up_s | (rw [up_n (by omega)]; first | assumption | exact up_s | (rw [up_n (by omega)]; first | assumption | exact up_s | (rw [up_n (by omega)]; first | assumption | exact up_s | (rw [up_n (by omega)]; first | assumption | exact up_s | (rw [up_n (by omega)]; first | assumption | exact up_s | (rw [up_n (by omega)]; first | assumption | exact up_s | (rw [up_n (by omega)]; first | assumption | exact up_s | (rw [up_n (by omega)]; first | assumption | exact up_s | (rw [up_n (by omega)]; first | assumption | exact up_s)))))))))))) rfl (c_clothAt G hm ho xc) (m5 (gT_in q296 rfl) (gT_in q298 rfl) (gT_in q2 rfl) (gT_in q55 rfl) (gT_in q299 rfl)) rfl (show kpar yX7_clothAt 1 from ⟨by decide, by decide, by decide +kernel⟩) ⟨by decide, by decide⟩ (by show _ ≤ (5 : Nat); omega) (by show _ ≤ (30 : Nat); omega) rfl (by first | decide | exact Nat.le_of_ble_eq_true rfl) dX7_lay_16 (fun E ce q9 H locs hp hW hS hce hcv hcl => ?_) (fun v ad16 ct16 H locs hp hW hS => ?_)
    · rw [hQ]; exact k_out hown hlocks hin hW hS hce hcv hcl (by omega) (by omega) (Or.inl ⟨hp.1, Or.inr (Or.inr hp.2)⟩)
    obtain ⟨jc, hc, hxjc, rfl, h1, h2⟩ := hp
    rw [h1, h2] at hW
    refine k_ast hx hb hL (i := 7) (by decide) dX7_lay_19 (fun ls hL => ?_)
    refine lv_iload_n hx hb dX7_lay_21 rfl (hL.at 1 rfl) ?_
    refine lv_iload_n hx hb dX7_lay_22 rfl (hL.at 2 rfl) ?_
    refine lv_icmp_eq (tgt := 36) hx hb dX7_lay_23 (by decide) (fun c23 => ?_) (fun c23 => ?_)
    · try dsimp only at c23
      have hbad : x = xo ∨ ¬ kIn wh 4 := Or.inl c23
      rw [hQ]
      exact k_throwW G hx hb hlocks (names := ["java/lang/RuntimeException", "java/lang/Exception"]) hown hts hq hI (by decide) (by decide) (gT_in q220 rfl) (gT_in q64 rfl) 5 rfl (fun w hw => hq w (at_54 w hw).1 (at_54 w hw).2) ot_54 hW hS (hL.1.trans hml.symm) hin dX7_lay_36 dX7_lay_39 dX7_lay_40 dX7_lay_43 dX7_lay_46 (by decide) (by decide) (by show _ ≤ (5 : Nat); omega) (by show _ ≤ (30 : Nat); omega) (by omega) (by omega) (Or.inr ⟨rfl, ⟨i, hi, hxi⟩, (hoth.elim (fun z => Or.inl z.1) (fun ⟨i9, a9, b9, _⟩ => Or.inr ⟨i9, a9, b9⟩)), ⟨jc, hc, hxjc⟩, hbad⟩)
    · try dsimp only at c23
      
      refine lv_iload hx hb dX7_lay_26 (hL.at 4 rfl) ?_
      refine lv_iconst (v := 0) hx hb dX7_lay_28 (by decide) ?_
      refine lv_iconst (v := 3) hx hb dX7_lay_29 (by decide) ?_
      refine k_callS hx hb hml hown hts hI hS hW hL.1 (c_isOutside G wh 0 3) (m4 (gT_in q421 rfl) (gT_in q422 rfl) (gT_in q55 rfl) (gT_in q423 rfl)) (show kpar yX7_isOutside 3 from ⟨by decide, by decide, by decide +kernel⟩) ⟨by decide, by decide⟩ (by show _ ≤ (5 : Nat); omega) (by show _ ≤ (30 : Nat); omega) rfl (by first | decide | exact Nat.le_of_ble_eq_true rfl) dX7_lay_30 (fun v ad30 ct30 H locs hp hW hS => ?_)
      obtain ⟨rfl, h1, h2⟩ := hp
      rw [h1, h2] at hW
      refine lv_if_eq (tgt := 47) hx hb dX7_lay_33 (by decide) (fun c33 => ?_) (fun c33 => ?_)
      · try simp only [b2_eq, Decidable.not_not] at c33
        try dsimp only at c33
        obtain ⟨wk, hwk, hxw⟩ := kIn_le (n := 3) c33 (by decide)
        subst hxw
        refine lv_aload_n hx hb dX7_lay_47 rfl (hL.at 0 rfl) ?_
        refine k_get (ci := 9) (C := RX7) (T := TX7) (N := 15) hx hb hts w_RX7 hown hK hW (by first | assumption | exact up_s | (rw [up_n (by omega)]; first | assumption | exact up_s | (rw [up_n (by omega)]; first | assumption | exact up_s | (rw [up_n (by omega)]; first | assumption | exact up_s | (rw [up_n (by omega)]; first | assumption | exact up_s | (rw [up_n (by omega)]; first | assumption | exact up_s | (rw [up_n (by omega)]; first | assumption | exact up_s | (rw [up_n (by omega)]; first | assumption | exact up_s | (rw [up_n (by omega)]; first | assumption | exact up_s | (rw [up_n (by omega)]; first | assumption | exact up_s | (rw [up_n (by omega)]; first | assumption | exact up_s | (rw [up_n (by omega)]; first | assumption | exact up_s)))))))))))) rfl 5 (by decide) (hq _ q154 rfl) (fun _ h9 => h9) (by rfl) dX7_lay_48 ?_
        refine lv_aload hx hb dX7_lay_51 (hL.at 5 rfl) ?_
        refine lv_aloadN hx hb dX7_lay_53 (hL.at 6 rfl) ?_
        refine lv_aload hx hb dX7_lay_55 (hL.at 7 rfl) ?_
        refine k_callVN (q := (RX6, TX6, 11)) (host := "TailorBench") hx hb hml hown hts hK hI hS hW hL.1 (by first | assumption | exact up_s | (rw [up_n (by omega)]; first | assumption | exact up_s | (rw [up_n (by omega)]; first | assumption | exact up_s | (rw [up_n (by omega)]; first | assumption | exact up_s | (rw [up_n (by omega)]; first | assumption | exact up_s | (rw [up_n (by omega)]; first | assumption | exact up_s | (rw [up_n (by omega)]; first | assumption | exact up_s | (rw [up_n (by omega)]; first | assumption | exact up_s | (rw [up_n (by omega)]; first | assumption | exact up_s | (rw [up_n (by omega)]; first | assumption | exact up_s | (rw [up_n (by omega)]; first | assumption | exact up_s | (rw [up_n (by omega)]; first | assumption | exact up_s)))))))))))) rfl (c_spread1 G hm ho hi hc hT hN) (gT_in q365 rfl) (hq _ q362 rfl) (hq _ q56 rfl) (hq _ q364 rfl) (hq _ q7 rfl) (show kpar yX6_spread 3 from ⟨by decide, by decide, by decide +kernel⟩) ⟨by decide, by decide⟩ (by show _ ≤ (5 : Nat); omega) (by show _ ≤ (30 : Nat); omega) rfl (by first | decide | exact Nat.le_of_ble_eq_true rfl) dX7_lay_57 (fun v ad57 ct57 H locs hp hW hS => ?_)
        obtain ⟨h1, hk57, ha57⟩ := hp
        rw [h1] at hW
        rw [← hspo jc] at ha57
        have hm57 := hm.out ho hk57
        have hs57 := hm57.1
        have hC57 := hm57.2.2.1 jc hc
        rcases ha57 with ⟨r57, fl57, fw57, fh57, fr57, e57, rfl, hT57⟩ | ⟨e57, rfl, tb57, fl57, fw57, fh57, fr57, hT57⟩
        · obtain ⟨t7, t8, t9, t10, t11⟩ := id hT57
          refine lv_if_ne (tgt := 67) hx hb dX7_lay_60 (by decide) (fun c60 => ?_) (fun c60 => ?_)
          · try dsimp only at c60
            refine lv_iload hx hb dX7_lay_67 (hL.at 4 rfl) ?_
            rcases (show wk = 0 ∨ wk = 1 ∨ wk = 2 ∨ wk = 3 by omega) with rfl | rfl | rfl | rfl
            · refine lv_tableIn (tgt := 96) hx hb dX7_lay_69 (by decide) (by decide) rfl (by decide) ?_
              refine lv_aload_n hx hb dX7_lay_96 rfl (hL.at 0 rfl) ?_
              refine k_get (ci := 9) (C := RX7) (T := TX7) (N := 15) hx hb hts w_RX7 hown hK hW (by first | assumption | exact up_s | (rw [up_n (by omega)]; first | assumption | exact up_s | (rw [up_n (by omega)]; first | assumption | exact up_s | (rw [up_n (by omega)]; first | assumption | exact up_s | (rw [up_n (by omega)]; first | assumption | exact up_s | (rw [up_n (by omega)]; first | assumption | exact up_s | (rw [up_n (by omega)]; first | assumption | exact up_s | (rw [up_n (by omega)]; first | assumption | exact up_s | (rw [up_n (by omega)]; first | assumption | exact up_s | (rw [up_n (by omega)]; first | assumption | exact up_s | (rw [up_n (by omega)]; first | assumption | exact up_s | (rw [up_n (by omega)]; first | assumption | exact up_s)))))))))))) rfl 5 (by decide) (hq _ q154 rfl) (fun _ h9 => h9) (by rfl) dX7_lay_97 ?_
              refine k_getN (ci := 8) (C := RX6) (T := TX6) (N := 11) hx hb hts w_RX6 hown hK hW (by first | assumption | exact up_s | (rw [up_n (by omega)]; first | assumption | exact up_s | (rw [up_n (by omega)]; first | assumption | exact up_s | (rw [up_n (by omega)]; first | assumption | exact up_s | (rw [up_n (by omega)]; first | assumption | exact up_s | (rw [up_n (by omega)]; first | assumption | exact up_s | (rw [up_n (by omega)]; first | assumption | exact up_s | (rw [up_n (by omega)]; first | assumption | exact up_s | (rw [up_n (by omega)]; first | assumption | exact up_s | (rw [up_n (by omega)]; first | assumption | exact up_s | (rw [up_n (by omega)]; first | assumption | exact up_s | (rw [up_n (by omega)]; first | assumption | exact up_s)))))))))))) rfl 7 (by decide) (hq _ q121 rfl) (fun _ h9 => h9) (by rfl) dX7_lay_100 ?_
              rw [hQ]
              exact vx_ret (k_dret hx hb hr hlocks hW hS (by omega) (by omega) dX7_lay_103 (⟨i, o, jc, 0, hi, hxi, hoth, hc, hxjc, c23, by decide, rfl, by rw [fLayV_s e57]; rfl, rfl, hk57, _, _, _, _, _, hT57⟩))
            · refine lv_tableIn (tgt := 104) hx hb dX7_lay_69 (by decide) (by decide) rfl (by decide) ?_
              refine lv_aload_n hx hb dX7_lay_104 rfl (hL.at 0 rfl) ?_
              refine k_get (ci := 9) (C := RX7) (T := TX7) (N := 15) hx hb hts w_RX7 hown hK hW (by first | assumption | exact up_s | (rw [up_n (by omega)]; first | assumption | exact up_s | (rw [up_n (by omega)]; first | assumption | exact up_s | (rw [up_n (by omega)]; first | assumption | exact up_s | (rw [up_n (by omega)]; first | assumption | exact up_s | (rw [up_n (by omega)]; first | assumption | exact up_s | (rw [up_n (by omega)]; first | assumption | exact up_s | (rw [up_n (by omega)]; first | assumption | exact up_s | (rw [up_n (by omega)]; first | assumption | exact up_s | (rw [up_n (by omega)]; first | assumption | exact up_s | (rw [up_n (by omega)]; first | assumption | exact up_s | (rw [up_n (by omega)]; first | assumption | exact up_s)))))))))))) rfl 5 (by decide) (hq _ q154 rfl) (fun _ h9 => h9) (by rfl) dX7_lay_105 ?_
              refine k_callVN (q := (RX6, TX6, 11)) (host := "TailorBench") hx hb hml hown hts hK hI hS hW hL.1 (by first | assumption | exact up_s | (rw [up_n (by omega)]; first | assumption | exact up_s | (rw [up_n (by omega)]; first | assumption | exact up_s | (rw [up_n (by omega)]; first | assumption | exact up_s | (rw [up_n (by omega)]; first | assumption | exact up_s | (rw [up_n (by omega)]; first | assumption | exact up_s | (rw [up_n (by omega)]; first | assumption | exact up_s | (rw [up_n (by omega)]; first | assumption | exact up_s | (rw [up_n (by omega)]; first | assumption | exact up_s | (rw [up_n (by omega)]; first | assumption | exact up_s | (rw [up_n (by omega)]; first | assumption | exact up_s | (rw [up_n (by omega)]; first | assumption | exact up_s)))))))))))) rfl (c_waste G hT57 (okWst_sp ho hN hi hc hoo e57).1) (gT_in q429 rfl) (hq _ q426 rfl) (hq _ q56 rfl) (hq _ q428 rfl) (hq _ q18 rfl) (show kpar yX6_waste 0 from ⟨by decide, by decide, by decide +kernel⟩) ⟨by decide, by decide⟩ (by show _ ≤ (5 : Nat); omega) (by show _ ≤ (30 : Nat); omega) rfl (by first | decide | exact Nat.le_of_ble_eq_true rfl) dX7_lay_108 (fun v ad108 ct108 H locs hp hW hS => ?_)
              obtain ⟨rfl, h1, h2⟩ := hp
              rw [h1, h2] at hW
              rw [hQ]
              exact vx_ret (k_dret hx hb hr hlocks hW hS (by omega) (by omega) dX7_lay_111 (⟨i, o, jc, 1, hi, hxi, hoth, hc, hxjc, c23, by decide, rfl, by rw [fLayV_s e57]; rfl, rfl, hk57, _, _, _, _, _, hT57⟩))
            · refine lv_tableIn (tgt := 112) hx hb dX7_lay_69 (by decide) (by decide) rfl (by decide) ?_
              refine lv_aload_n hx hb dX7_lay_112 rfl (hL.at 0 rfl) ?_
              refine k_get (ci := 9) (C := RX7) (T := TX7) (N := 15) hx hb hts w_RX7 hown hK hW (by first | assumption | exact up_s | (rw [up_n (by omega)]; first | assumption | exact up_s | (rw [up_n (by omega)]; first | assumption | exact up_s | (rw [up_n (by omega)]; first | assumption | exact up_s | (rw [up_n (by omega)]; first | assumption | exact up_s | (rw [up_n (by omega)]; first | assumption | exact up_s | (rw [up_n (by omega)]; first | assumption | exact up_s | (rw [up_n (by omega)]; first | assumption | exact up_s | (rw [up_n (by omega)]; first | assumption | exact up_s | (rw [up_n (by omega)]; first | assumption | exact up_s | (rw [up_n (by omega)]; first | assumption | exact up_s | (rw [up_n (by omega)]; first | assumption | exact up_s)))))))))))) rfl 5 (by decide) (hq _ q154 rfl) (fun _ h9 => h9) (by rfl) dX7_lay_113 ?_
              refine k_getN (ci := 8) (C := RX6) (T := TX6) (N := 11) hx hb hts w_RX6 hown hK hW (by first | assumption | exact up_s | (rw [up_n (by omega)]; first | assumption | exact up_s | (rw [up_n (by omega)]; first | assumption | exact up_s | (rw [up_n (by omega)]; first | assumption | exact up_s | (rw [up_n (by omega)]; first | assumption | exact up_s | (rw [up_n (by omega)]; first | assumption | exact up_s | (rw [up_n (by omega)]; first | assumption | exact up_s | (rw [up_n (by omega)]; first | assumption | exact up_s | (rw [up_n (by omega)]; first | assumption | exact up_s | (rw [up_n (by omega)]; first | assumption | exact up_s | (rw [up_n (by omega)]; first | assumption | exact up_s | (rw [up_n (by omega)]; first | assumption | exact up_s)))))))))))) rfl 5 (by decide) (hq _ q117 rfl) (fun _ h9 => h9) (by rfl) dX7_lay_116 ?_
              refine lv_i2d hx hb dX7_lay_119 ?_
              rw [hQ]
              exact vx_ret (k_dret hx hb hr hlocks hW hS (by omega) (by omega) dX7_lay_120 (⟨i, o, jc, 2, hi, hxi, hoth, hc, hxjc, c23, by decide, rfl, by rw [fLayV_s e57]; rfl, rfl, hk57, _, _, _, _, _, hT57⟩))
            · refine lv_tableOut (tgt := 121) hx hb dX7_lay_69 (by decide) (by decide) ?_
              refine lv_aload_n hx hb dX7_lay_121 rfl (hL.at 0 rfl) ?_
              refine k_get (ci := 9) (C := RX7) (T := TX7) (N := 15) hx hb hts w_RX7 hown hK hW (by first | assumption | exact up_s | (rw [up_n (by omega)]; first | assumption | exact up_s | (rw [up_n (by omega)]; first | assumption | exact up_s | (rw [up_n (by omega)]; first | assumption | exact up_s | (rw [up_n (by omega)]; first | assumption | exact up_s | (rw [up_n (by omega)]; first | assumption | exact up_s | (rw [up_n (by omega)]; first | assumption | exact up_s | (rw [up_n (by omega)]; first | assumption | exact up_s | (rw [up_n (by omega)]; first | assumption | exact up_s | (rw [up_n (by omega)]; first | assumption | exact up_s | (rw [up_n (by omega)]; first | assumption | exact up_s | (rw [up_n (by omega)]; first | assumption | exact up_s)))))))))))) rfl 5 (by decide) (hq _ q154 rfl) (fun _ h9 => h9) (by rfl) dX7_lay_122 ?_
              refine k_getN (ci := 8) (C := RX6) (T := TX6) (N := 11) hx hb hts w_RX6 hown hK hW (by first | assumption | exact up_s | (rw [up_n (by omega)]; first | assumption | exact up_s | (rw [up_n (by omega)]; first | assumption | exact up_s | (rw [up_n (by omega)]; first | assumption | exact up_s | (rw [up_n (by omega)]; first | assumption | exact up_s | (rw [up_n (by omega)]; first | assumption | exact up_s | (rw [up_n (by omega)]; first | assumption | exact up_s | (rw [up_n (by omega)]; first | assumption | exact up_s | (rw [up_n (by omega)]; first | assumption | exact up_s | (rw [up_n (by omega)]; first | assumption | exact up_s | (rw [up_n (by omega)]; first | assumption | exact up_s | (rw [up_n (by omega)]; first | assumption | exact up_s)))))))))))) rfl 6 (by decide) (hq _ q119 rfl) (fun _ h9 => h9) (by rfl) dX7_lay_125 ?_
              refine lv_i2d hx hb dX7_lay_128 ?_
              rw [hQ]
              exact vx_ret (k_dret hx hb hr hlocks hW hS (by omega) (by omega) dX7_lay_129 (⟨i, o, jc, 3, hi, hxi, hoth, hc, hxjc, c23, by decide, rfl, by rw [fLayV_s e57]; rfl, rfl, hk57, _, _, _, _, _, hT57⟩))
          · try dsimp only at c60
            exact absurd c60 (by decide)
        · refine lv_if_ne (tgt := 67) hx hb dX7_lay_60 (by decide) (fun c60 => ?_) (fun c60 => ?_)
          · try dsimp only at c60
            exact absurd c60 (by decide)
          · try dsimp only at c60
            refine lv_ldc2d hx hb hown (hq _ q425 rfl) dX7_lay_63 ?_
            rw [hQ]
            exact vx_ret (k_dret hx hb hr hlocks hW hS (by omega) (by omega) dX7_lay_66 (⟨i, o, jc, wk, hi, hxi, hoth, hc, hxjc, c23, hwk, rfl, by rw [fLayV_0 e57], rfl, hk57, _, _, _, _, _, hT57⟩))
      · try simp only [b2_eq, Decidable.not_not] at c33
        try dsimp only at c33
        have hbad : x = xo ∨ ¬ kIn wh 4 := Or.inr (kIn_nle (n := 3) (by first | exact c33 | exact Decidable.not_not.mp c33) (by decide))
        rw [hQ]
        exact k_throwW G hx hb hlocks (names := ["java/lang/RuntimeException", "java/lang/Exception"]) hown hts hq hI (by decide) (by decide) (gT_in q220 rfl) (gT_in q64 rfl) 5 rfl (fun w hw => hq w (at_54 w hw).1 (at_54 w hw).2) ot_54 hW hS (hL.1.trans hml.symm) hin dX7_lay_36 dX7_lay_39 dX7_lay_40 dX7_lay_43 dX7_lay_46 (by decide) (by decide) (by show _ ≤ (5 : Nat); omega) (by show _ ≤ (30 : Nat); omega) (by omega) (by omega) (Or.inr ⟨rfl, ⟨i, hi, hxi⟩, (hoth.elim (fun z => Or.inl z.1) (fun ⟨i9, a9, b9, _⟩ => Or.inr ⟨i9, a9, b9⟩)), ⟨jc, hc, hxjc⟩, hbad⟩)
  · obtain ⟨o, hoth, hoo, hspo, hlo⟩ : ∃ o, kOth xo (mO M) o ∧ (∀ i2, o = some i2 → i2 < mO M) ∧ (∀ jc, fSpo M i o jc = fSp2 M i i2 jc) ∧ True := ⟨some i2, Or.inr ⟨i2, hi2, hxo, rfl⟩, (fun _ z => by cases z; exact hi2), fun _ => rfl, trivial⟩
    have ooW := (hm.ord ho hi2).1
    have ostW := (ho.2.2.2.2.2 i2 hi2).2.2.2
    refine k_ast hx hb hL (i := 6) (by decide) dX7_lay_12 (fun ls hL => ?_)
    refine lv_aload_n hx hb dX7_lay_14 rfl (hL.at 0 rfl) ?_
    refine lv_iload_n hx hb dX7_lay_15 rfl (hL.at 3 rfl) ?_
    refine k_callVX (q := (RX7, TX7, 15)) hx hb hml hown hts hK hI hS hW hL.1 (by first | assumption | exact up_s | (rw [up_n (by omega)]; first | assumption | exact up_s | (rw [up_n (by omega)]; first | assumption | exact up_s | (rw [up_n (by omega)]; first | assumption | exact up_s | (rw [up_n (by omega)]; first | assumption | exact up_s | (rw [up_n (by omega)]; first | assumption | exact up_s | (rw [up_n (by omega)]; first | assumption | exact up_s | (rw [up_n (by omega)]; first | assumption | exact up_s | (rw [up_n (by omega)]; first | assumption | exact up_s | (rw [up_n (by omega)]; first | assumption | exact up_s | (rw [up_n (by omega)]; first | assumption | exact up_s | (rw [up_n (by omega)]; first | assumption | exact up_s)))))))))))) rfl (c_clothAt G hm ho xc) (m5 (gT_in q296 rfl) (gT_in q298 rfl) (gT_in q2 rfl) (gT_in q55 rfl) (gT_in q299 rfl)) rfl (show kpar yX7_clothAt 1 from ⟨by decide, by decide, by decide +kernel⟩) ⟨by decide, by decide⟩ (by show _ ≤ (5 : Nat); omega) (by show _ ≤ (30 : Nat); omega) rfl (by first | decide | exact Nat.le_of_ble_eq_true rfl) dX7_lay_16 (fun E ce q9 H locs hp hW hS hce hcv hcl => ?_) (fun v ad16 ct16 H locs hp hW hS => ?_)
    · rw [hQ]; exact k_out hown hlocks hin hW hS hce hcv hcl (by omega) (by omega) (Or.inl ⟨hp.1, Or.inr (Or.inr hp.2)⟩)
    obtain ⟨jc, hc, hxjc, rfl, h1, h2⟩ := hp
    rw [h1, h2] at hW
    refine k_ast hx hb hL (i := 7) (by decide) dX7_lay_19 (fun ls hL => ?_)
    refine lv_iload_n hx hb dX7_lay_21 rfl (hL.at 1 rfl) ?_
    refine lv_iload_n hx hb dX7_lay_22 rfl (hL.at 2 rfl) ?_
    refine lv_icmp_eq (tgt := 36) hx hb dX7_lay_23 (by decide) (fun c23 => ?_) (fun c23 => ?_)
    · try dsimp only at c23
      have hbad : x = xo ∨ ¬ kIn wh 4 := Or.inl c23
      rw [hQ]
      exact k_throwW G hx hb hlocks (names := ["java/lang/RuntimeException", "java/lang/Exception"]) hown hts hq hI (by decide) (by decide) (gT_in q220 rfl) (gT_in q64 rfl) 5 rfl (fun w hw => hq w (at_54 w hw).1 (at_54 w hw).2) ot_54 hW hS (hL.1.trans hml.symm) hin dX7_lay_36 dX7_lay_39 dX7_lay_40 dX7_lay_43 dX7_lay_46 (by decide) (by decide) (by show _ ≤ (5 : Nat); omega) (by show _ ≤ (30 : Nat); omega) (by omega) (by omega) (Or.inr ⟨rfl, ⟨i, hi, hxi⟩, (hoth.elim (fun z => Or.inl z.1) (fun ⟨i9, a9, b9, _⟩ => Or.inr ⟨i9, a9, b9⟩)), ⟨jc, hc, hxjc⟩, hbad⟩)
    · try dsimp only at c23
      
      refine lv_iload hx hb dX7_lay_26 (hL.at 4 rfl) ?_
      refine lv_iconst (v := 0) hx hb dX7_lay_28 (by decide) ?_
      refine lv_iconst (v := 3) hx hb dX7_lay_29 (by decide) ?_
      refine k_callS hx hb hml hown hts hI hS hW hL.1 (c_isOutside G wh 0 3) (m4 (gT_in q421 rfl) (gT_in q422 rfl) (gT_in q55 rfl) (gT_in q423 rfl)) (show kpar yX7_isOutside 3 from ⟨by decide, by decide, by decide +kernel⟩) ⟨by decide, by decide⟩ (by show _ ≤ (5 : Nat); omega) (by show _ ≤ (30 : Nat); omega) rfl (by first | decide | exact Nat.le_of_ble_eq_true rfl) dX7_lay_30 (fun v ad30 ct30 H locs hp hW hS => ?_)
      obtain ⟨rfl, h1, h2⟩ := hp
      rw [h1, h2] at hW
      refine lv_if_eq (tgt := 47) hx hb dX7_lay_33 (by decide) (fun c33 => ?_) (fun c33 => ?_)
      · try simp only [b2_eq, Decidable.not_not] at c33
        try dsimp only at c33
        obtain ⟨wk, hwk, hxw⟩ := kIn_le (n := 3) c33 (by decide)
        subst hxw
        refine lv_aload_n hx hb dX7_lay_47 rfl (hL.at 0 rfl) ?_
        refine k_get (ci := 9) (C := RX7) (T := TX7) (N := 15) hx hb hts w_RX7 hown hK hW (by first | assumption | exact up_s | (rw [up_n (by omega)]; first | assumption | exact up_s | (rw [up_n (by omega)]; first | assumption | exact up_s | (rw [up_n (by omega)]; first | assumption | exact up_s | (rw [up_n (by omega)]; first | assumption | exact up_s | (rw [up_n (by omega)]; first | assumption | exact up_s | (rw [up_n (by omega)]; first | assumption | exact up_s | (rw [up_n (by omega)]; first | assumption | exact up_s | (rw [up_n (by omega)]; first | assumption | exact up_s | (rw [up_n (by omega)]; first | assumption | exact up_s | (rw [up_n (by omega)]; first | assumption | exact up_s | (rw [up_n (by omega)]; first | assumption | exact up_s)))))))))))) rfl 5 (by decide) (hq _ q154 rfl) (fun _ h9 => h9) (by rfl) dX7_lay_48 ?_
        refine lv_aload hx hb dX7_lay_51 (hL.at 5 rfl) ?_
        refine lv_aload hx hb dX7_lay_53 (hL.at 6 rfl) ?_
        refine lv_aload hx hb dX7_lay_55 (hL.at 7 rfl) ?_
        refine k_callVN (q := (RX6, TX6, 11)) (host := "TailorBench") hx hb hml hown hts hK hI hS hW hL.1 (by first | assumption | exact up_s | (rw [up_n (by omega)]; first | assumption | exact up_s | (rw [up_n (by omega)]; first | assumption | exact up_s | (rw [up_n (by omega)]; first | assumption | exact up_s | (rw [up_n (by omega)]; first | assumption | exact up_s | (rw [up_n (by omega)]; first | assumption | exact up_s | (rw [up_n (by omega)]; first | assumption | exact up_s | (rw [up_n (by omega)]; first | assumption | exact up_s | (rw [up_n (by omega)]; first | assumption | exact up_s | (rw [up_n (by omega)]; first | assumption | exact up_s | (rw [up_n (by omega)]; first | assumption | exact up_s | (rw [up_n (by omega)]; first | assumption | exact up_s)))))))))))) rfl (c_spread2 G hm ho hi hc hT hN hi2) (gT_in q365 rfl) (hq _ q362 rfl) (hq _ q56 rfl) (hq _ q364 rfl) (hq _ q7 rfl) (show kpar yX6_spread 3 from ⟨by decide, by decide, by decide +kernel⟩) ⟨by decide, by decide⟩ (by show _ ≤ (5 : Nat); omega) (by show _ ≤ (30 : Nat); omega) rfl (by first | decide | exact Nat.le_of_ble_eq_true rfl) dX7_lay_57 (fun v ad57 ct57 H locs hp hW hS => ?_)
        obtain ⟨h1, hk57, ha57⟩ := hp
        rw [h1] at hW
        rw [← hspo jc] at ha57
        have hm57 := hm.out ho hk57
        have hs57 := hm57.1
        have hC57 := hm57.2.2.1 jc hc
        rcases ha57 with ⟨r57, fl57, fw57, fh57, fr57, e57, rfl, hT57⟩ | ⟨e57, rfl, tb57, fl57, fw57, fh57, fr57, hT57⟩
        · obtain ⟨t7, t8, t9, t10, t11⟩ := id hT57
          refine lv_if_ne (tgt := 67) hx hb dX7_lay_60 (by decide) (fun c60 => ?_) (fun c60 => ?_)
          · try dsimp only at c60
            refine lv_iload hx hb dX7_lay_67 (hL.at 4 rfl) ?_
            rcases (show wk = 0 ∨ wk = 1 ∨ wk = 2 ∨ wk = 3 by omega) with rfl | rfl | rfl | rfl
            · refine lv_tableIn (tgt := 96) hx hb dX7_lay_69 (by decide) (by decide) rfl (by decide) ?_
              refine lv_aload_n hx hb dX7_lay_96 rfl (hL.at 0 rfl) ?_
              refine k_get (ci := 9) (C := RX7) (T := TX7) (N := 15) hx hb hts w_RX7 hown hK hW (by first | assumption | exact up_s | (rw [up_n (by omega)]; first | assumption | exact up_s | (rw [up_n (by omega)]; first | assumption | exact up_s | (rw [up_n (by omega)]; first | assumption | exact up_s | (rw [up_n (by omega)]; first | assumption | exact up_s | (rw [up_n (by omega)]; first | assumption | exact up_s | (rw [up_n (by omega)]; first | assumption | exact up_s | (rw [up_n (by omega)]; first | assumption | exact up_s | (rw [up_n (by omega)]; first | assumption | exact up_s | (rw [up_n (by omega)]; first | assumption | exact up_s | (rw [up_n (by omega)]; first | assumption | exact up_s | (rw [up_n (by omega)]; first | assumption | exact up_s)))))))))))) rfl 5 (by decide) (hq _ q154 rfl) (fun _ h9 => h9) (by rfl) dX7_lay_97 ?_
              refine k_getN (ci := 8) (C := RX6) (T := TX6) (N := 11) hx hb hts w_RX6 hown hK hW (by first | assumption | exact up_s | (rw [up_n (by omega)]; first | assumption | exact up_s | (rw [up_n (by omega)]; first | assumption | exact up_s | (rw [up_n (by omega)]; first | assumption | exact up_s | (rw [up_n (by omega)]; first | assumption | exact up_s | (rw [up_n (by omega)]; first | assumption | exact up_s | (rw [up_n (by omega)]; first | assumption | exact up_s | (rw [up_n (by omega)]; first | assumption | exact up_s | (rw [up_n (by omega)]; first | assumption | exact up_s | (rw [up_n (by omega)]; first | assumption | exact up_s | (rw [up_n (by omega)]; first | assumption | exact up_s | (rw [up_n (by omega)]; first | assumption | exact up_s)))))))))))) rfl 7 (by decide) (hq _ q121 rfl) (fun _ h9 => h9) (by rfl) dX7_lay_100 ?_
              rw [hQ]
              exact vx_ret (k_dret hx hb hr hlocks hW hS (by omega) (by omega) dX7_lay_103 (⟨i, o, jc, 0, hi, hxi, hoth, hc, hxjc, c23, by decide, rfl, by rw [fLayV_s e57]; rfl, rfl, hk57, _, _, _, _, _, hT57⟩))
            · refine lv_tableIn (tgt := 104) hx hb dX7_lay_69 (by decide) (by decide) rfl (by decide) ?_
              refine lv_aload_n hx hb dX7_lay_104 rfl (hL.at 0 rfl) ?_
              refine k_get (ci := 9) (C := RX7) (T := TX7) (N := 15) hx hb hts w_RX7 hown hK hW (by first | assumption | exact up_s | (rw [up_n (by omega)]; first | assumption | exact up_s | (rw [up_n (by omega)]; first | assumption | exact up_s | (rw [up_n (by omega)]; first | assumption | exact up_s | (rw [up_n (by omega)]; first | assumption | exact up_s | (rw [up_n (by omega)]; first | assumption | exact up_s | (rw [up_n (by omega)]; first | assumption | exact up_s | (rw [up_n (by omega)]; first | assumption | exact up_s | (rw [up_n (by omega)]; first | assumption | exact up_s | (rw [up_n (by omega)]; first | assumption | exact up_s | (rw [up_n (by omega)]; first | assumption | exact up_s | (rw [up_n (by omega)]; first | assumption | exact up_s)))))))))))) rfl 5 (by decide) (hq _ q154 rfl) (fun _ h9 => h9) (by rfl) dX7_lay_105 ?_
              refine k_callVN (q := (RX6, TX6, 11)) (host := "TailorBench") hx hb hml hown hts hK hI hS hW hL.1 (by first | assumption | exact up_s | (rw [up_n (by omega)]; first | assumption | exact up_s | (rw [up_n (by omega)]; first | assumption | exact up_s | (rw [up_n (by omega)]; first | assumption | exact up_s | (rw [up_n (by omega)]; first | assumption | exact up_s | (rw [up_n (by omega)]; first | assumption | exact up_s | (rw [up_n (by omega)]; first | assumption | exact up_s | (rw [up_n (by omega)]; first | assumption | exact up_s | (rw [up_n (by omega)]; first | assumption | exact up_s | (rw [up_n (by omega)]; first | assumption | exact up_s | (rw [up_n (by omega)]; first | assumption | exact up_s | (rw [up_n (by omega)]; first | assumption | exact up_s)))))))))))) rfl (c_waste G hT57 (okWst_sp ho hN hi hc hoo e57).1) (gT_in q429 rfl) (hq _ q426 rfl) (hq _ q56 rfl) (hq _ q428 rfl) (hq _ q18 rfl) (show kpar yX6_waste 0 from ⟨by decide, by decide, by decide +kernel⟩) ⟨by decide, by decide⟩ (by show _ ≤ (5 : Nat); omega) (by show _ ≤ (30 : Nat); omega) rfl (by first | decide | exact Nat.le_of_ble_eq_true rfl) dX7_lay_108 (fun v ad108 ct108 H locs hp hW hS => ?_)
              obtain ⟨rfl, h1, h2⟩ := hp
              rw [h1, h2] at hW
              rw [hQ]
              exact vx_ret (k_dret hx hb hr hlocks hW hS (by omega) (by omega) dX7_lay_111 (⟨i, o, jc, 1, hi, hxi, hoth, hc, hxjc, c23, by decide, rfl, by rw [fLayV_s e57]; rfl, rfl, hk57, _, _, _, _, _, hT57⟩))
            · refine lv_tableIn (tgt := 112) hx hb dX7_lay_69 (by decide) (by decide) rfl (by decide) ?_
              refine lv_aload_n hx hb dX7_lay_112 rfl (hL.at 0 rfl) ?_
              refine k_get (ci := 9) (C := RX7) (T := TX7) (N := 15) hx hb hts w_RX7 hown hK hW (by first | assumption | exact up_s | (rw [up_n (by omega)]; first | assumption | exact up_s | (rw [up_n (by omega)]; first | assumption | exact up_s | (rw [up_n (by omega)]; first | assumption | exact up_s | (rw [up_n (by omega)]; first | assumption | exact up_s | (rw [up_n (by omega)]; first | assumption | exact up_s | (rw [up_n (by omega)]; first | assumption | exact up_s | (rw [up_n (by omega)]; first | assumption | exact up_s | (rw [up_n (by omega)]; first | assumption | exact up_s | (rw [up_n (by omega)]; first | assumption | exact up_s | (rw [up_n (by omega)]; first | assumption | exact up_s | (rw [up_n (by omega)]; first | assumption | exact up_s)))))))))))) rfl 5 (by decide) (hq _ q154 rfl) (fun _ h9 => h9) (by rfl) dX7_lay_113 ?_
              refine k_getN (ci := 8) (C := RX6) (T := TX6) (N := 11) hx hb hts w_RX6 hown hK hW (by first | assumption | exact up_s | (rw [up_n (by omega)]; first | assumption | exact up_s | (rw [up_n (by omega)]; first | assumption | exact up_s | (rw [up_n (by omega)]; first | assumption | exact up_s | (rw [up_n (by omega)]; first | assumption | exact up_s | (rw [up_n (by omega)]; first | assumption | exact up_s | (rw [up_n (by omega)]; first | assumption | exact up_s | (rw [up_n (by omega)]; first | assumption | exact up_s | (rw [up_n (by omega)]; first | assumption | exact up_s | (rw [up_n (by omega)]; first | assumption | exact up_s | (rw [up_n (by omega)]; first | assumption | exact up_s | (rw [up_n (by omega)]; first | assumption | exact up_s)))))))))))) rfl 5 (by decide) (hq _ q117 rfl) (fun _ h9 => h9) (by rfl) dX7_lay_116 ?_
              refine lv_i2d hx hb dX7_lay_119 ?_
              rw [hQ]
              exact vx_ret (k_dret hx hb hr hlocks hW hS (by omega) (by omega) dX7_lay_120 (⟨i, o, jc, 2, hi, hxi, hoth, hc, hxjc, c23, by decide, rfl, by rw [fLayV_s e57]; rfl, rfl, hk57, _, _, _, _, _, hT57⟩))
            · refine lv_tableOut (tgt := 121) hx hb dX7_lay_69 (by decide) (by decide) ?_
              refine lv_aload_n hx hb dX7_lay_121 rfl (hL.at 0 rfl) ?_
              refine k_get (ci := 9) (C := RX7) (T := TX7) (N := 15) hx hb hts w_RX7 hown hK hW (by first | assumption | exact up_s | (rw [up_n (by omega)]; first | assumption | exact up_s | (rw [up_n (by omega)]; first | assumption | exact up_s | (rw [up_n (by omega)]; first | assumption | exact up_s | (rw [up_n (by omega)]; first | assumption | exact up_s | (rw [up_n (by omega)]; first | assumption | exact up_s | (rw [up_n (by omega)]; first | assumption | exact up_s | (rw [up_n (by omega)]; first | assumption | exact up_s | (rw [up_n (by omega)]; first | assumption | exact up_s | (rw [up_n (by omega)]; first | assumption | exact up_s | (rw [up_n (by omega)]; first | assumption | exact up_s | (rw [up_n (by omega)]; first | assumption | exact up_s)))))))))))) rfl 5 (by decide) (hq _ q154 rfl) (fun _ h9 => h9) (by rfl) dX7_lay_122 ?_
              refine k_getN (ci := 8) (C := RX6) (T := TX6) (N := 11) hx hb hts w_RX6 hown hK hW (by first | assumption | exact up_s | (rw [up_n (by omega)]; first | assumption | exact up_s | (rw [up_n (by omega)]; first | assumption | exact up_s | (rw [up_n (by omega)]; first | assumption | exact up_s | (rw [up_n (by omega)]; first | assumption | exact up_s | (rw [up_n (by omega)]; first | assumption | exact up_s | (rw [up_n (by omega)]; first | assumption | exact up_s | (rw [up_n (by omega)]; first | assumption | exact up_s | (rw [up_n (by omega)]; first | assumption | exact up_s | (rw [up_n (by omega)]; first | assumption | exact up_s | (rw [up_n (by omega)]; first | assumption | exact up_s | (rw [up_n (by omega)]; first | assumption | exact up_s)))))))))))) rfl 6 (by decide) (hq _ q119 rfl) (fun _ h9 => h9) (by rfl) dX7_lay_125 ?_
              refine lv_i2d hx hb dX7_lay_128 ?_
              rw [hQ]
              exact vx_ret (k_dret hx hb hr hlocks hW hS (by omega) (by omega) dX7_lay_129 (⟨i, o, jc, 3, hi, hxi, hoth, hc, hxjc, c23, by decide, rfl, by rw [fLayV_s e57]; rfl, rfl, hk57, _, _, _, _, _, hT57⟩))
          · try dsimp only at c60
            exact absurd c60 (by decide)
        · refine lv_if_ne (tgt := 67) hx hb dX7_lay_60 (by decide) (fun c60 => ?_) (fun c60 => ?_)
          · try dsimp only at c60
            exact absurd c60 (by decide)
          · try dsimp only at c60
            refine lv_ldc2d hx hb hown (hq _ q425 rfl) dX7_lay_63 ?_
            rw [hQ]
            exact vx_ret (k_dret hx hb hr hlocks hW hS (by omega) (by omega) dX7_lay_66 (⟨i, o, jc, wk, hi, hxi, hoth, hc, hxjc, c23, hwk, rfl, by rw [fLayV_0 e57], rfl, hk57, _, _, _, _, _, hT57⟩))
      · try simp only [b2_eq, Decidable.not_not] at c33
        try dsimp only at c33
        have hbad : x = xo ∨ ¬ kIn wh 4 := Or.inr (kIn_nle (n := 3) (by first | exact c33 | exact Decidable.not_not.mp c33) (by decide))
        rw [hQ]
        exact k_throwW G hx hb hlocks (names := ["java/lang/RuntimeException", "java/lang/Exception"]) hown hts hq hI (by decide) (by decide) (gT_in q220 rfl) (gT_in q64 rfl) 5 rfl (fun w hw => hq w (at_54 w hw).1 (at_54 w hw).2) ot_54 hW hS (hL.1.trans hml.symm) hin dX7_lay_36 dX7_lay_39 dX7_lay_40 dX7_lay_43 dX7_lay_46 (by decide) (by decide) (by show _ ≤ (5 : Nat); omega) (by show _ ≤ (30 : Nat); omega) (by omega) (by omega) (Or.inr ⟨rfl, ⟨i, hi, hxi⟩, (hoth.elim (fun z => Or.inl z.1) (fun ⟨i9, a9, b9, _⟩ => Or.inr ⟨i9, a9, b9⟩)), ⟨jc, hc, hxjc⟩, hbad⟩)

set_option maxHeartbeats 4000000 in
set_option maxRecDepth 100000 in
/-- TailorBench.lay  -/
theorem c_qlayM {l : Launch} {D : va_G} {cy : Nat → ClassId} {sad : Nat → Nat} {em : Nat} {s0 : State} {a0 : Array Value} (G : kG kSTR l D cy sad em s0 a0) {ad : Nat → Nat} {ct : Nat → Option va_E} {M : tM} (hm : RepC cy ad ct M) (ho : okM M) {i : Nat} (hi : i < mO M) {jc : Nat} (hc : jc < mC M) {tb : tTb} {fl fw fh fr : Nat → UInt64} (hT : RepT cy ad ct tb fl fw fh fr) {nb : Nat} (hN : okN nb M) :
    KM l yX7_lay [.code yX7_lay prog_1_method_25_code 8 (some .double)] 5 119 0 0 [.ref (ad 1), .int (nI i), .int (-1), .int (nI jc), .int 0] D s0 ad ct (fun v ad' ct' => v = some (.double (fLayV M i none jc 0)) ∧ ad' = ad ∧ kOut ct ct' ∧ ∃ (tb : tTb) (fl fw fh fr : Nat → UInt64), RepT cy ad ct' tb fl fw fh fr) := by
  refine KM.of G (by decide) (Nat.le_of_ble_eq_true rfl) (Nat.le_of_ble_eq_true rfl) ?_
  intro p e s m args below meth c ls Q hQ X hin hL hW hS
  obtain ⟨hx, hb, hr, hml, hown, hlocks, hts, hq, hK, hI⟩ := X
  have hbn := ho.1
  have hs1 := hm.1
  have hts1 := hT.1
  refine lv_aload_n hx hb dX7_lay_0 rfl (hL.at 0 rfl) ?_
  refine lv_iload_n hx hb dX7_lay_1 rfl (hL.at 1 rfl) ?_
  refine k_callV (q := (RX7, TX7, 15)) hx hb hml hown hts hK hI hS hW hL.1 (by first | assumption | exact up_s | (rw [up_n (by omega)]; first | assumption | exact up_s | (rw [up_n (by omega)]; first | assumption | exact up_s | (rw [up_n (by omega)]; first | assumption | exact up_s | (rw [up_n (by omega)]; first | assumption | exact up_s | (rw [up_n (by omega)]; first | assumption | exact up_s | (rw [up_n (by omega)]; first | assumption | exact up_s | (rw [up_n (by omega)]; first | assumption | exact up_s | (rw [up_n (by omega)]; first | assumption | exact up_s | (rw [up_n (by omega)]; first | assumption | exact up_s | (rw [up_n (by omega)]; first | assumption | exact up_s | (rw [up_n (by omega)]; first | assumption | exact up_s)))))))))))) rfl (c_orderAtM G hm ho (x := nI i) ⟨i, hi, rfl⟩) (m5 (gT_in q325 rfl) (gT_in q327 rfl) (gT_in q3 rfl) (gT_in q55 rfl) (gT_in q328 rfl)) rfl (show kpar yX7_orderAt 1 from ⟨by decide, by decide, by decide +kernel⟩) ⟨by decide, by decide⟩ (by show _ ≤ (0 : Nat); omega) (by show _ ≤ (0 : Nat); omega) rfl (by first | decide | exact Nat.le_of_ble_eq_true rfl) dX7_lay_2 (fun v ad2 ct2 H locs hp hW hS => ?_)
  obtain ⟨z9, hz9, hzj, rfl, h1, h2⟩ := hp
  obtain rfl : i = z9 := (nI_eq (by omega) (by omega)).mp hzj
  rw [h1, h2] at hW
  refine k_ast hx hb hL (i := 5) (by decide) dX7_lay_5 (fun ls hL => ?_)
  refine lv_aload_n hx hb dX7_lay_7 rfl (hL.at 0 rfl) ?_
  refine lv_iload_n hx hb dX7_lay_8 rfl (hL.at 2 rfl) ?_
  refine k_callV (q := (RX7, TX7, 15)) hx hb hml hown hts hK hI hS hW hL.1 (by first | assumption | exact up_s | (rw [up_n (by omega)]; first | assumption | exact up_s | (rw [up_n (by omega)]; first | assumption | exact up_s | (rw [up_n (by omega)]; first | assumption | exact up_s | (rw [up_n (by omega)]; first | assumption | exact up_s | (rw [up_n (by omega)]; first | assumption | exact up_s | (rw [up_n (by omega)]; first | assumption | exact up_s | (rw [up_n (by omega)]; first | assumption | exact up_s | (rw [up_n (by omega)]; first | assumption | exact up_s | (rw [up_n (by omega)]; first | assumption | exact up_s | (rw [up_n (by omega)]; first | assumption | exact up_s | (rw [up_n (by omega)]; first | assumption | exact up_s)))))))))))) rfl (c_otherAtN G hm ho) (m5 (gT_in q417 rfl) (gT_in q419 rfl) (gT_in q17 rfl) (gT_in q55 rfl) (gT_in q420 rfl)) rfl (show kpar yX7_otherAt 1 from ⟨by decide, by decide, by decide +kernel⟩) ⟨by decide, by decide⟩ (by show _ ≤ (0 : Nat); omega) (by show _ ≤ (0 : Nat); omega) rfl (by first | decide | exact Nat.le_of_ble_eq_true rfl) dX7_lay_9 (fun v ad9 ct9 H locs hp hW hS => ?_)
  obtain ⟨rfl, h1, h2⟩ := hp
  rw [h1, h2] at hW
  refine k_astN hx hb hL (i := 6) (by decide) dX7_lay_12 (fun ls hL => ?_)
  refine lv_aload_n hx hb dX7_lay_14 rfl (hL.at 0 rfl) ?_
  refine lv_iload_n hx hb dX7_lay_15 rfl (hL.at 3 rfl) ?_
  refine k_callV (q := (RX7, TX7, 15)) hx hb hml hown hts hK hI hS hW hL.1 (by first | assumption | exact up_s | (rw [up_n (by omega)]; first | assumption | exact up_s | (rw [up_n (by omega)]; first | assumption | exact up_s | (rw [up_n (by omega)]; first | assumption | exact up_s | (rw [up_n (by omega)]; first | assumption | exact up_s | (rw [up_n (by omega)]; first | assumption | exact up_s | (rw [up_n (by omega)]; first | assumption | exact up_s | (rw [up_n (by omega)]; first | assumption | exact up_s | (rw [up_n (by omega)]; first | assumption | exact up_s | (rw [up_n (by omega)]; first | assumption | exact up_s | (rw [up_n (by omega)]; first | assumption | exact up_s | (rw [up_n (by omega)]; first | assumption | exact up_s)))))))))))) rfl (c_clothAtM G hm ho (x := nI jc) ⟨jc, hc, rfl⟩) (m5 (gT_in q296 rfl) (gT_in q298 rfl) (gT_in q2 rfl) (gT_in q55 rfl) (gT_in q299 rfl)) rfl (show kpar yX7_clothAt 1 from ⟨by decide, by decide, by decide +kernel⟩) ⟨by decide, by decide⟩ (by show _ ≤ (0 : Nat); omega) (by show _ ≤ (0 : Nat); omega) rfl (by first | decide | exact Nat.le_of_ble_eq_true rfl) dX7_lay_16 (fun v ad16 ct16 H locs hp hW hS => ?_)
  obtain ⟨z9, hz9, hzj, rfl, h1, h2⟩ := hp
  obtain rfl : jc = z9 := (nI_eq (by omega) (by omega)).mp hzj
  rw [h1, h2] at hW
  refine k_ast hx hb hL (i := 7) (by decide) dX7_lay_19 (fun ls hL => ?_)
  refine lv_iload_n hx hb dX7_lay_21 rfl (hL.at 1 rfl) ?_
  refine lv_iload_n hx hb dX7_lay_22 rfl (hL.at 2 rfl) ?_
  refine lv_icmp_eq (tgt := 36) hx hb dX7_lay_23 (by decide) (fun c23 => ?_) (fun c23 => ?_)
  · try dsimp only at c23
    exact absurd c23 (by intro z; have z2 := nI_pos (n := i) (by omega); rw [z] at z2; exact z2 (by decide))
  · try dsimp only at c23
    refine lv_iload hx hb dX7_lay_26 (hL.at 4 rfl) ?_
    refine lv_iconst (v := 0) hx hb dX7_lay_28 (by decide) ?_
    refine lv_iconst (v := 3) hx hb dX7_lay_29 (by decide) ?_
    refine k_callS hx hb hml hown hts hI hS hW hL.1 (c_isOutside G 0 0 3) (m4 (gT_in q421 rfl) (gT_in q422 rfl) (gT_in q55 rfl) (gT_in q423 rfl)) (show kpar yX7_isOutside 3 from ⟨by decide, by decide, by decide +kernel⟩) ⟨by decide, by decide⟩ (by show _ ≤ (0 : Nat); omega) (by show _ ≤ (0 : Nat); omega) rfl (by first | decide | exact Nat.le_of_ble_eq_true rfl) dX7_lay_30 (fun v ad30 ct30 H locs hp hW hS => ?_)
    obtain ⟨rfl, h1, h2⟩ := hp
    rw [h1, h2] at hW
    refine lv_if_eq (tgt := 47) hx hb dX7_lay_33 (by decide) (fun c33 => ?_) (fun c33 => ?_)
    · try simp only [b2_eq, Decidable.not_not] at c33
      try dsimp only at c33
      refine lv_aload_n hx hb dX7_lay_47 rfl (hL.at 0 rfl) ?_
      refine k_get (ci := 9) (C := RX7) (T := TX7) (N := 15) hx hb hts w_RX7 hown hK hW (by first | assumption | exact up_s | (rw [up_n (by omega)]; first | assumption | exact up_s | (rw [up_n (by omega)]; first | assumption | exact up_s | (rw [up_n (by omega)]; first | assumption | exact up_s | (rw [up_n (by omega)]; first | assumption | exact up_s | (rw [up_n (by omega)]; first | assumption | exact up_s | (rw [up_n (by omega)]; first | assumption | exact up_s | (rw [up_n (by omega)]; first | assumption | exact up_s | (rw [up_n (by omega)]; first | assumption | exact up_s | (rw [up_n (by omega)]; first | assumption | exact up_s | (rw [up_n (by omega)]; first | assumption | exact up_s | (rw [up_n (by omega)]; first | assumption | exact up_s)))))))))))) rfl 5 (by decide) (hq _ q154 rfl) (fun _ h9 => h9) (by rfl) dX7_lay_48 ?_
      refine lv_aload hx hb dX7_lay_51 (hL.at 5 rfl) ?_
      refine lv_aloadN hx hb dX7_lay_53 (hL.at 6 rfl) ?_
      refine lv_aload hx hb dX7_lay_55 (hL.at 7 rfl) ?_
      refine k_callVN (q := (RX6, TX6, 11)) (host := "TailorBench") hx hb hml hown hts hK hI hS hW hL.1 (by first | assumption | exact up_s | (rw [up_n (by omega)]; first | assumption | exact up_s | (rw [up_n (by omega)]; first | assumption | exact up_s | (rw [up_n (by omega)]; first | assumption | exact up_s | (rw [up_n (by omega)]; first | assumption | exact up_s | (rw [up_n (by omega)]; first | assumption | exact up_s | (rw [up_n (by omega)]; first | assumption | exact up_s | (rw [up_n (by omega)]; first | assumption | exact up_s | (rw [up_n (by omega)]; first | assumption | exact up_s | (rw [up_n (by omega)]; first | assumption | exact up_s | (rw [up_n (by omega)]; first | assumption | exact up_s | (rw [up_n (by omega)]; first | assumption | exact up_s)))))))))))) rfl (c_spread1 G hm ho hi hc hT hN) (gT_in q365 rfl) (hq _ q362 rfl) (hq _ q56 rfl) (hq _ q364 rfl) (hq _ q7 rfl) (show kpar yX6_spread 3 from ⟨by decide, by decide, by decide +kernel⟩) ⟨by decide, by decide⟩ (by show _ ≤ (0 : Nat); omega) (by show _ ≤ (0 : Nat); omega) rfl (by first | decide | exact Nat.le_of_ble_eq_true rfl) dX7_lay_57 (fun v ad57 ct57 H locs hp hW hS => ?_)
      obtain ⟨h1, hk57, ha57⟩ := hp
      rw [h1] at hW
      have hm57 := hm.out ho hk57
      have hs57 := hm57.1
      rcases ha57 with ⟨r57, fl57, fw57, fh57, fr57, e57, rfl, hT57⟩ | ⟨e57, rfl, tb57, fl57, fw57, fh57, fr57, hT57⟩
      all_goals have e58 : fSpo M i none jc = _ := e57
      · obtain ⟨t7, t8, t9, t10, t11⟩ := id hT57
        refine lv_if_ne (tgt := 67) hx hb dX7_lay_60 (by decide) (fun c60 => ?_) (fun c60 => ?_)
        · try dsimp only at c60
          refine lv_iload hx hb dX7_lay_67 (hL.at 4 rfl) ?_
          obtain ⟨wk, hw0, hwk⟩ : ∃ wk : Nat, (0 : Int32) = nI wk ∧ wk = 0 := ⟨0, rfl, rfl⟩
          rcases (show wk = 0 by exact hwk) with rfl
          · refine lv_tableIn (tgt := 96) hx hb dX7_lay_69 (by decide) (by decide) rfl (by decide) ?_
            refine lv_aload_n hx hb dX7_lay_96 rfl (hL.at 0 rfl) ?_
            refine k_get (ci := 9) (C := RX7) (T := TX7) (N := 15) hx hb hts w_RX7 hown hK hW (by first | assumption | exact up_s | (rw [up_n (by omega)]; first | assumption | exact up_s | (rw [up_n (by omega)]; first | assumption | exact up_s | (rw [up_n (by omega)]; first | assumption | exact up_s | (rw [up_n (by omega)]; first | assumption | exact up_s | (rw [up_n (by omega)]; first | assumption | exact up_s | (rw [up_n (by omega)]; first | assumption | exact up_s | (rw [up_n (by omega)]; first | assumption | exact up_s | (rw [up_n (by omega)]; first | assumption | exact up_s | (rw [up_n (by omega)]; first | assumption | exact up_s | (rw [up_n (by omega)]; first | assumption | exact up_s | (rw [up_n (by omega)]; first | assumption | exact up_s)))))))))))) rfl 5 (by decide) (hq _ q154 rfl) (fun _ h9 => h9) (by rfl) dX7_lay_97 ?_
            refine k_getN (ci := 8) (C := RX6) (T := TX6) (N := 11) hx hb hts w_RX6 hown hK hW (by first | assumption | exact up_s | (rw [up_n (by omega)]; first | assumption | exact up_s | (rw [up_n (by omega)]; first | assumption | exact up_s | (rw [up_n (by omega)]; first | assumption | exact up_s | (rw [up_n (by omega)]; first | assumption | exact up_s | (rw [up_n (by omega)]; first | assumption | exact up_s | (rw [up_n (by omega)]; first | assumption | exact up_s | (rw [up_n (by omega)]; first | assumption | exact up_s | (rw [up_n (by omega)]; first | assumption | exact up_s | (rw [up_n (by omega)]; first | assumption | exact up_s | (rw [up_n (by omega)]; first | assumption | exact up_s | (rw [up_n (by omega)]; first | assumption | exact up_s)))))))))))) rfl 7 (by decide) (hq _ q121 rfl) (fun _ h9 => h9) (by rfl) dX7_lay_100 ?_
            rw [hQ]
            exact k_dret hx hb hr hlocks hW hS (by omega) (by omega) dX7_lay_103 (⟨by rw [fLayV_s e58]; rfl, rfl, hk57, _, _, _, _, _, hT57⟩)
        · try dsimp only at c60
          exact absurd c60 (by decide)
      · refine lv_if_ne (tgt := 67) hx hb dX7_lay_60 (by decide) (fun c60 => ?_) (fun c60 => ?_)
        · try dsimp only at c60
          exact absurd c60 (by decide)
        · try dsimp only at c60
          refine lv_ldc2d hx hb hown (hq _ q425 rfl) dX7_lay_63 ?_
          rw [hQ]
          exact k_dret hx hb hr hlocks hW hS (by omega) (by omega) dX7_lay_66 (⟨by rw [fLayV_0 e58], rfl, hk57, _, _, _, _, _, hT57⟩)
    · try simp only [b2_eq, Decidable.not_not] at c33
      try dsimp only at c33
      exact absurd c33 (by decide)
