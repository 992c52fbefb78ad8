/-! fitted, given -/
def fFitC (M : tM) (i : Nat) : UInt64 := if fJudge M i = 1 then fSpend (mClk M) cD1 else if fJudge M i = 2 then fSpend (mClk M) cHalf else mClk M
abbrev fFitO (M : tM) (i : Nat) : tOr := (oP (mod M i), oS (mod M i), oDue (mod M i), if fJudge M i = 3 then 5 else 3, oCloth (mod M i), oCost (mod M i), oHand (mod M i), oReady (mod M i), fJudge M i, oNeeds (mod M i), oBod (mod M i))
def fLate (M : tM) (i : Nat) : Int32 := if FP.dcmp (mClk M) (FP.i2d (oDue (mod M i))) = some .gt then FP.d2i (FP.ddiv (FP.dsub (mClk M) (FP.i2d (oDue (mod M i)))) cD8) else 0
def fGive (M : tM) (i : Nat) : Int32 := 20 + 5 * nI (mCnt M i) - oCost (mod M i) - 3 * fLate M i
abbrev fGiveO (M : tM) (i : Nat) : tOr := (oP (mod M i), oS (mod M i), oDue (mod M i), 4, oCloth (mod M i), oCost (mod M i), oHand (mod M i), oReady (mod M i), oFit (mod M i), oNeeds (mod M i), oBod (mod M i))
theorem late_no {clk : UInt64} {a b : Nat} (h : dP a b clk) (d : Int32) : vf_n64 (FP.dsub clk (FP.i2d d)) ∧ vf_n64 (FP.ddiv (FP.dsub clk (FP.i2d d)) cD8) := by
  have h1 := FP.Core.dsub_out h.nn (FP.Core.i2d_fin d)
  refine ⟨vf_of h1, vf_of (FP.Core.ddiv_out h1 dP_c8.fin ?_)⟩
  exact fun z => absurd ((FP.Core.zero_bits2 _).mp z) (by decide +kernel)
theorem spend_ok {clk x : UInt64} {a b : Nat} (h : dP 0 128000 clk) (hx : dP a b x) (hb : b ≤ 6400) : vf_n64 (FP.dadd clk x) := vf_of (dP_add h hx (by omega)).nn

set_option maxHeartbeats 8000000 in
set_option maxRecDepth 100000 in
/-- TailorBench.fit  -/
theorem c_fit {l : Launch} {D : va_G} {cy : Nat → ClassId} {sad : Nat → Nat} {em : Nat} {s0 : State} {a0 : Array Value} (G : kG kSTR l D cy sad em s0 a0) {ad : Nat → Nat} {ct : Nat → Option va_E} {M : tM} (hm : RepC cy ad ct M) (ho : okM M) {nb : Nat} (hN : okN nb M) (x : Int32) :
    KX l yX7_fit [.code yX7_fit prog_1_method_12_code 4 (some .int)] 7 120 2 12 [.ref (ad 1), .int x] D s0 ad ct (fun v ad' ct' => ∃ i, i < mO M ∧ x = nI i ∧ mShut M = 0 ∧ oState (mod M i) = 2 ∧ ad' = ad ∧ ((FP.dcmp (oReady (mod M i)) (mClk M) = some .gt ∧ v = some (.int (-2)) ∧ ct' = ct) ∨ (¬ FP.dcmp (oReady (mod M i)) (mClk M) = some .gt ∧ v = some (.int (fJudge M i)) ∧ ct' 1 = some (oShop ad (sSh M (fFitC M i, M.2.1.2))) ∧ ct' (64 + i) = some (oOr ad i (fFitO M i)) ∧ ∀ k, k ≠ 1 → k ≠ 64 + i → ct' k = ct k))) (fun E => (E = eIdx ∧ ¬ kIn x (mO M)) ∨ (E = eSta ∧ ∃ i, i < mO M ∧ x = nI i ∧ (¬ mShut M = 0 ∨ ¬ oState (mod M i) = 2))) := by
  refine KX.of G (by decide) (Nat.le_of_ble_eq_true rfl) (Nat.le_of_ble_eq_true rfl) ?_
  intro p e s m args below meth c ls Q hQ X hin hL hW hS
  obtain ⟨hx, hb, hr, hml, hown, hlocks, hts, hq, hK, hI⟩ := X
  have hbn := ho.1
  have hs1 := hm.1
  refine lv_aload_n hx hb dX7_fit_0 rfl (hL.at 0 rfl) ?_
  refine lv_iload_n hx hb dX7_fit_1 rfl (hL.at 1 rfl) ?_
  refine k_callVX (q := (RX7, TX7, 15)) hx hb hml hown hts hK hI hS hW hL.1 (by first | assumption | exact up_s | (rw [up_n (by omega)]; first | assumption | exact up_s | (rw [up_n (by omega)]; first | assumption | exact up_s | (rw [up_n (by omega)]; first | assumption | exact up_s | (rw [up_n (by omega)]; first | assumption | exact up_s | (rw [up_n (by omega)]; first | assumption | exact up_s | (rw [up_n (by omega)]; first | assumption | exact up_s | (rw [up_n (by omega)]; first | assumption | exact up_s | (rw [up_n (by omega)]; first | assumption | exact up_s | (rw [up_n (by omega)]; first | assumption | exact up_s | (rw [up_n (by omega)]; first | assumption | exact up_s | (rw [up_n (by omega)]; first | assumption | exact up_s)))))))))))) rfl (c_orderAt G hm ho x) (m5 (gT_in q325 rfl) (gT_in q327 rfl) (gT_in q3 rfl) (gT_in q55 rfl) (gT_in q328 rfl)) rfl (show kpar yX7_orderAt 1 from ⟨by decide, by decide, by decide +kernel⟩) ⟨by decide, by decide⟩ (by show _ ≤ (2 : Nat); omega) (by show _ ≤ (12 : Nat); omega) rfl (by first | decide | exact Nat.le_of_ble_eq_true rfl) dX7_fit_2 (fun E ce q9 H locs hp hW hS hce hcv hcl => ?_) (fun v ad2 ct2 H locs hp hW hS => ?_)
  · rw [hQ]; exact k_out hown hlocks hin hW hS hce hcv hcl (by omega) (by omega) (Or.inl hp)
  obtain ⟨i, hi, hxi, rfl, h1, h2⟩ := hp
  rw [h1, h2] at hW
  refine k_ast_n hx hb hL (i := 2) rfl (by decide) dX7_fit_5 (fun ls hL => ?_)
  have oo := (hm.ord ho hi).1
  have ost := (ho.2.2.2.2.2 i hi).2.2.2
  refine lv_aload_n hx hb dX7_fit_6 rfl (hL.at 0 rfl) ?_
  refine k_get (ci := 9) (C := RX7) (T := TX7) (N := 15) hx hb hts w_RX7 hown hK hW (by first | assumption | exact up_s | (rw [up_n (by omega)]; first | assumption | exact up_s | (rw [up_n (by omega)]; first | assumption | exact up_s | (rw [up_n (by omega)]; first | assumption | exact up_s | (rw [up_n (by omega)]; first | assumption | exact up_s | (rw [up_n (by omega)]; first | assumption | exact up_s | (rw [up_n (by omega)]; first | assumption | exact up_s | (rw [up_n (by omega)]; first | assumption | exact up_s | (rw [up_n (by omega)]; first | assumption | exact up_s | (rw [up_n (by omega)]; first | assumption | exact up_s | (rw [up_n (by omega)]; first | assumption | exact up_s | (rw [up_n (by omega)]; first | assumption | exact up_s)))))))))))) rfl 14 (by decide) (hq _ q163 rfl) (fun _ h9 => h9) (by rfl) dX7_fit_7 ?_
  refine lv_if_ne (tgt := 21) hx hb dX7_fit_10 (by decide) (fun c10 => ?_) (fun c10 => ?_)
  · try simp only [b2_eq, Decidable.not_not] at c10
    try dsimp only at c10
    have hrf : ¬ mShut M = 0 ∨ ¬ oState (mod M i) = 2 := Or.inl (by first | exact c10 | exact Decidable.not_not.mp c10)
    rw [hQ]
    exact k_throw G hx hb hlocks (names := ["java/lang/RuntimeException", "java/lang/Exception"]) hown hts hq hI (by decide) (by decide) (gT_in q449 rfl) (gT_in q65 rfl) 24 rfl (fun w hw => hq w (at_65 w hw).1 (at_65 w hw).2) ot_65 hW hS (hL.1.trans hml.symm) hin dX7_fit_21 dX7_fit_24 dX7_fit_25 dX7_fit_27 dX7_fit_30 (by decide) (by decide) (by show _ ≤ (2 : Nat); omega) (by show _ ≤ (12 : Nat); omega) (by omega) (by omega) (Or.inr ⟨rfl, i, hi, hxi, hrf⟩)
  · try simp only [b2_eq, Decidable.not_not] at c10
    try dsimp only at c10
    have hsh : mShut M = 0 := by first | exact c10 | exact Decidable.not_not.mp c10
    refine lv_aload_n hx hb dX7_fit_13 rfl (hL.at 2 rfl) ?_
    refine k_getN (ci := 4) (C := RX2) (T := TX2) (N := 10) hx hb hts w_RX2 hown hK hW (by first | assumption | exact up_s | (rw [up_n (by omega)]; first | assumption | exact up_s | (rw [up_n (by omega)]; first | assumption | exact up_s | (rw [up_n (by omega)]; first | assumption | exact up_s | (rw [up_n (by omega)]; first | assumption | exact up_s | (rw [up_n (by omega)]; first | assumption | exact up_s | (rw [up_n (by omega)]; first | assumption | exact up_s | (rw [up_n (by omega)]; first | assumption | exact up_s | (rw [up_n (by omega)]; first | assumption | exact up_s | (rw [up_n (by omega)]; first | assumption | exact up_s | (rw [up_n (by omega)]; first | assumption | exact up_s | (rw [up_n (by omega)]; first | assumption | exact up_s)))))))))))) rfl 4 (by decide) (hq _ q679 rfl) (fun _ h9 => h9) (by rfl) dX7_fit_14 ?_
    refine lv_iconst (v := 2) hx hb dX7_fit_17 (by decide) ?_
    refine lv_icmp_eq (tgt := 31) hx hb dX7_fit_18 (by decide) (fun c18 => ?_) (fun c18 => ?_)
    · try dsimp only at c18
      have hst1 : oState (mod M i) = 2 := (nI_eq (a := oState (mod M i)) (b := 2) (by omega) (by omega)).mp c18
      refine lv_aload_n hx hb dX7_fit_31 rfl (hL.at 2 rfl) ?_
      refine k_getN (ci := 4) (C := RX2) (T := TX2) (N := 10) hx hb hts w_RX2 hown hK hW (by first | assumption | exact up_s | (rw [up_n (by omega)]; first | assumption | exact up_s | (rw [up_n (by omega)]; first | assumption | exact up_s | (rw [up_n (by omega)]; first | assumption | exact up_s | (rw [up_n (by omega)]; first | assumption | exact up_s | (rw [up_n (by omega)]; first | assumption | exact up_s | (rw [up_n (by omega)]; first | assumption | exact up_s | (rw [up_n (by omega)]; first | assumption | exact up_s | (rw [up_n (by omega)]; first | assumption | exact up_s | (rw [up_n (by omega)]; first | assumption | exact up_s | (rw [up_n (by omega)]; first | assumption | exact up_s | (rw [up_n (by omega)]; first | assumption | exact up_s)))))))))))) rfl 8 (by decide) (hq _ q687 rfl) (fun _ h9 => h9) (by rfl) dX7_fit_32 ?_
      refine lv_aload_n hx hb dX7_fit_35 rfl (hL.at 0 rfl) ?_
      refine k_get (ci := 9) (C := RX7) (T := TX7) (N := 15) hx hb hts w_RX7 hown hK hW (by first | assumption | exact up_s | (rw [up_n (by omega)]; first | assumption | exact up_s | (rw [up_n (by omega)]; first | assumption | exact up_s | (rw [up_n (by omega)]; first | assumption | exact up_s | (rw [up_n (by omega)]; first | assumption | exact up_s | (rw [up_n (by omega)]; first | assumption | exact up_s | (rw [up_n (by omega)]; first | assumption | exact up_s | (rw [up_n (by omega)]; first | assumption | exact up_s | (rw [up_n (by omega)]; first | assumption | exact up_s | (rw [up_n (by omega)]; first | assumption | exact up_s | (rw [up_n (by omega)]; first | assumption | exact up_s | (rw [up_n (by omega)]; first | assumption | exact up_s)))))))))))) rfl 11 (by decide) (hq _ q160 rfl) (fun _ h9 => h9) (by rfl) dX7_fit_36 ?_
      refine lv_dcmp hx hb dX7_fit_39 ?_
      refine lv_if_le (tgt := 46) hx hb dX7_fit_40 (by decide) (fun c40 => ?_) (fun c40 => ?_)
      · rw [cl_le] at c40
        refine lv_aload_n hx hb dX7_fit_46 rfl (hL.at 2 rfl) ?_
        refine k_callVN (q := (RX2, TX2, 10)) (host := "TailorBench") hx hb hml hown hts hK hI hS hW hL.1 (by first | assumption | exact up_s | (rw [up_n (by omega)]; first | assumption | exact up_s | (rw [up_n (by omega)]; first | assumption | exact up_s | (rw [up_n (by omega)]; first | assumption | exact up_s | (rw [up_n (by omega)]; first | assumption | exact up_s | (rw [up_n (by omega)]; first | assumption | exact up_s | (rw [up_n (by omega)]; first | assumption | exact up_s | (rw [up_n (by omega)]; first | assumption | exact up_s | (rw [up_n (by omega)]; first | assumption | exact up_s | (rw [up_n (by omega)]; first | assumption | exact up_s | (rw [up_n (by omega)]; first | assumption | exact up_s | (rw [up_n (by omega)]; first | assumption | exact up_s)))))))))))) rfl (c_judge G hm ho hi (okGap ho hN hi)) (gT_in q757 rfl) (hq _ q754 rfl) (hq _ q80 rfl) (hq _ q756 rfl) (hq _ q25 rfl) (show kpar yX2_judge 0 from ⟨by decide, by decide, by decide +kernel⟩) ⟨by decide, by decide⟩ (by show _ ≤ (2 : Nat); omega) (by show _ ≤ (12 : Nat); omega) rfl (by first | decide | exact Nat.le_of_ble_eq_true rfl) dX7_fit_47 (fun v ad47 ct47 H locs hp hW hS => ?_)
        obtain ⟨rfl, h1, h2⟩ := hp
        rw [h1, h2] at hW
        refine k_ist_n hx hb hL (i := 3) rfl (by decide) dX7_fit_50 (fun ls hL => ?_)
        refine lv_iload_n hx hb dX7_fit_51 rfl (hL.at 3 rfl) ?_
        refine lv_iconst (v := 1) hx hb dX7_fit_52 (by decide) ?_
        refine lv_icmp_ne (tgt := 64) hx hb dX7_fit_53 (by decide) (fun c53 => ?_) (fun c53 => ?_)
        · try dsimp only at c53
          have hj1 : ¬ fJudge M i = 1 := c53
          refine lv_iload_n hx hb dX7_fit_64 rfl (hL.at 3 rfl) ?_
          refine lv_iconst (v := 2) hx hb dX7_fit_65 (by decide) ?_
          refine lv_icmp_ne (tgt := 76) hx hb dX7_fit_66 (by decide) (fun c66 => ?_) (fun c66 => ?_)
          · try dsimp only at c66
            have hj2 : ¬ fJudge M i = 2 := c66
            have hcl : mClk M = fFitC M i := ((if_neg hj1).trans (if_neg hj2)).symm
            have hv9 : ct 1 = some (oShop ad (sSh M (mClk M, M.2.1.2))) := hs1
            have hr9 : ∀ k, k ≠ 1 → ct k = ct k := fun _ _ => rfl
            have oo9 := oo
            refine lv_aload_n hx hb dX7_fit_76 rfl (hL.at 2 rfl) ?_
            refine lv_iload_n hx hb dX7_fit_77 rfl (hL.at 3 rfl) ?_
            refine k_putN (ci := 4) (C := RX2) (T := TX2) (N := 10) (ty := tyX2 9) hx hb hts w_RX2 tyX2 tyX2_ok nmX2 hown hK hW hS (by first | assumption | exact up_s | (rw [up_n (by omega)]; first | assumption | exact up_s | (rw [up_n (by omega)]; first | assumption | exact up_s | (rw [up_n (by omega)]; first | assumption | exact up_s | (rw [up_n (by omega)]; first | assumption | exact up_s | (rw [up_n (by omega)]; first | assumption | exact up_s | (rw [up_n (by omega)]; first | assumption | exact up_s | (rw [up_n (by omega)]; first | assumption | exact up_s | (rw [up_n (by omega)]; first | assumption | exact up_s | (rw [up_n (by omega)]; first | assumption | exact up_s | (rw [up_n (by omega)]; first | assumption | exact up_s | (rw [up_n (by omega)]; first | assumption | exact up_s)))))))))))) (by omega) rfl 9 (by decide) (hq _ q689 rfl) (fun _ h9 => h9) rfl (by decide +kernel) rfl rfl (by first | exact Nat.le_of_ble_eq_true rfl | (simp only [List.length_set]; exact Nat.le_of_ble_eq_true rfl)) dX7_fit_78 (fun H locs hW hS => ?_)
            refine lv_aload_n hx hb dX7_fit_81 rfl (hL.at 2 rfl) ?_
            refine lv_iload_n hx hb dX7_fit_82 rfl (hL.at 3 rfl) ?_
            refine lv_iconst (v := 3) hx hb dX7_fit_83 (by decide) ?_
            refine lv_icmp_ne (tgt := 91) hx hb dX7_fit_84 (by decide) (fun c84 => ?_) (fun c84 => ?_)
            · try dsimp only at c84
              refine lv_iconst (v := 3) hx hb dX7_fit_91 (by decide) ?_
              refine lv_topi (fun y hy => ?_)
              have hy2 : y = nI (if fJudge M i = 3 then 5 else 3) := hy.trans (congrArg nI (if_neg c84)).symm
              subst hy2
              refine k_putN (ci := 4) (C := RX2) (T := TX2) (N := 10) (ty := tyX2 4) hx hb hts w_RX2 tyX2 tyX2_ok nmX2 hown hK hW hS (by first | assumption | exact up_s | (rw [up_n (by omega)]; first | assumption | exact up_s | (rw [up_n (by omega)]; first | assumption | exact up_s | (rw [up_n (by omega)]; first | assumption | exact up_s | (rw [up_n (by omega)]; first | assumption | exact up_s | (rw [up_n (by omega)]; first | assumption | exact up_s | (rw [up_n (by omega)]; first | assumption | exact up_s | (rw [up_n (by omega)]; first | assumption | exact up_s | (rw [up_n (by omega)]; first | assumption | exact up_s | (rw [up_n (by omega)]; first | assumption | exact up_s | (rw [up_n (by omega)]; first | assumption | exact up_s | (rw [up_n (by omega)]; first | assumption | exact up_s)))))))))))) (by omega) rfl 4 (by decide) (hq _ q679 rfl) (fun _ h9 => h9) rfl (by decide +kernel) rfl rfl (by first | exact Nat.le_of_ble_eq_true rfl | (simp only [List.length_set]; exact Nat.le_of_ble_eq_true rfl)) dX7_fit_92 (fun H locs hW hS => ?_)
              refine lv_iload_n hx hb dX7_fit_95 rfl (hL.at 3 rfl) ?_
              rw [hQ]
              exact vx_ret (k_iret hx hb hr hlocks hW hS (by omega) (by omega) dX7_fit_96 (⟨i, hi, hxi, hsh, hst1, rfl, Or.inr ⟨c40, rfl, by rw [← hcl]; exact (up_n (by omega)).trans ((up_n (by omega)).trans hv9), up_s, fun k a b => (up_n b).trans ((up_n b).trans (hr9 k a))⟩⟩))
            · try dsimp only at c84
              refine lv_iconst (v := 5) hx hb dX7_fit_87 (by decide) ?_
              refine lv_topi (fun y hy => ?_)
              have hy2 : y = nI (if fJudge M i = 3 then 5 else 3) := hy.trans (congrArg nI (if_pos (by first | exact c84 | exact Decidable.not_not.mp c84))).symm
              subst hy2
              refine lv_goto (tgt := 92) hx hb dX7_fit_88 (by decide) ?_
              refine k_putN (ci := 4) (C := RX2) (T := TX2) (N := 10) (ty := tyX2 4) hx hb hts w_RX2 tyX2 tyX2_ok nmX2 hown hK hW hS (by first | assumption | exact up_s | (rw [up_n (by omega)]; first | assumption | exact up_s | (rw [up_n (by omega)]; first | assumption | exact up_s | (rw [up_n (by omega)]; first | assumption | exact up_s | (rw [up_n (by omega)]; first | assumption | exact up_s | (rw [up_n (by omega)]; first | assumption | exact up_s | (rw [up_n (by omega)]; first | assumption | exact up_s | (rw [up_n (by omega)]; first | assumption | exact up_s | (rw [up_n (by omega)]; first | assumption | exact up_s | (rw [up_n (by omega)]; first | assumption | exact up_s | (rw [up_n (by omega)]; first | assumption | exact up_s | (rw [up_n (by omega)]; first | assumption | exact up_s)))))))))))) (by omega) rfl 4 (by decide) (hq _ q679 rfl) (fun _ h9 => h9) rfl (by decide +kernel) rfl rfl (by first | exact Nat.le_of_ble_eq_true rfl | (simp only [List.length_set]; exact Nat.le_of_ble_eq_true rfl)) dX7_fit_92 (fun H locs hW hS => ?_)
              refine lv_iload_n hx hb dX7_fit_95 rfl (hL.at 3 rfl) ?_
              rw [hQ]
              exact vx_ret (k_iret hx hb hr hlocks hW hS (by omega) (by omega) dX7_fit_96 (⟨i, hi, hxi, hsh, hst1, rfl, Or.inr ⟨c40, rfl, by rw [← hcl]; exact (up_n (by omega)).trans ((up_n (by omega)).trans hv9), up_s, fun k a b => (up_n b).trans ((up_n b).trans (hr9 k a))⟩⟩))
          · try dsimp only at c66
            have hj2 : fJudge M i = 2 := by first | exact c66 | exact Decidable.not_not.mp c66
            have hcl : fSpend (mClk M) cHalf = fFitC M i := ((if_neg hj1).trans (if_pos hj2)).symm
            refine lv_aload_n hx hb dX7_fit_69 rfl (hL.at 0 rfl) ?_
            refine lv_ldc2d hx hb hown (hq _ q412 rfl) dX7_fit_70 ?_
            refine k_callV (q := (RX7, TX7, 15)) hx hb hml hown hts hK hI hS hW hL.1 (by first | assumption | exact up_s | (rw [up_n (by omega)]; first | assumption | exact up_s | (rw [up_n (by omega)]; first | assumption | exact up_s | (rw [up_n (by omega)]; first | assumption | exact up_s | (rw [up_n (by omega)]; first | assumption | exact up_s | (rw [up_n (by omega)]; first | assumption | exact up_s | (rw [up_n (by omega)]; first | assumption | exact up_s | (rw [up_n (by omega)]; first | assumption | exact up_s | (rw [up_n (by omega)]; first | assumption | exact up_s | (rw [up_n (by omega)]; first | assumption | exact up_s | (rw [up_n (by omega)]; first | assumption | exact up_s | (rw [up_n (by omega)]; first | assumption | exact up_s)))))))))))) rfl (c_spend G hm ho cHalf (spend_ok hN.2.1 dP_half (by omega))) (m5 (gT_in q733 rfl) (gT_in q735 rfl) (gT_in q24 rfl) (gT_in q55 rfl) (gT_in q736 rfl)) rfl (show kpar yX7_spend 1 from ⟨by decide, by decide, by decide +kernel⟩) ⟨by decide, by decide⟩ (by show _ ≤ (2 : Nat); omega) (by show _ ≤ (12 : Nat); omega) rfl (by first | decide | exact Nat.le_of_ble_eq_true rfl) dX7_fit_73 (fun v ad73 ct73 H locs hp hW hS => ?_)
            obtain ⟨rfl, h1, hv9, hr9⟩ := hp
            rw [h1] at hW
            have oo9 := (hr9 (64 + i) (by omega)).trans oo
            refine lv_aload_n hx hb dX7_fit_76 rfl (hL.at 2 rfl) ?_
            refine lv_iload_n hx hb dX7_fit_77 rfl (hL.at 3 rfl) ?_
            refine k_putN (ci := 4) (C := RX2) (T := TX2) (N := 10) (ty := tyX2 9) hx hb hts w_RX2 tyX2 tyX2_ok nmX2 hown hK hW hS (by first | assumption | exact up_s | (rw [up_n (by omega)]; first | assumption | exact up_s | (rw [up_n (by omega)]; first | assumption | exact up_s | (rw [up_n (by omega)]; first | assumption | exact up_s | (rw [up_n (by omega)]; first | assumption | exact up_s | (rw [up_n (by omega)]; first | assumption | exact up_s | (rw [up_n (by omega)]; first | assumption | exact up_s | (rw [up_n (by omega)]; first | assumption | exact up_s | (rw [up_n (by omega)]; first | assumption | exact up_s | (rw [up_n (by omega)]; first | assumption | exact up_s | (rw [up_n (by omega)]; first | assumption | exact up_s | (rw [up_n (by omega)]; first | assumption | exact up_s)))))))))))) (by omega) rfl 9 (by decide) (hq _ q689 rfl) (fun _ h9 => h9) rfl (by decide +kernel) rfl rfl (by first | exact Nat.le_of_ble_eq_true rfl | (simp only [List.length_set]; exact Nat.le_of_ble_eq_true rfl)) dX7_fit_78 (fun H locs hW hS => ?_)
            refine lv_aload_n hx hb dX7_fit_81 rfl (hL.at 2 rfl) ?_
            refine lv_iload_n hx hb dX7_fit_82 rfl (hL.at 3 rfl) ?_
            refine lv_iconst (v := 3) hx hb dX7_fit_83 (by decide) ?_
            refine lv_icmp_ne (tgt := 91) hx hb dX7_fit_84 (by decide) (fun c84 => ?_) (fun c84 => ?_)
            · try dsimp only at c84
              refine lv_iconst (v := 3) hx hb dX7_fit_91 (by decide) ?_
              refine lv_topi (fun y hy => ?_)
              have hy2 : y = nI (if fJudge M i = 3 then 5 else 3) := hy.trans (congrArg nI (if_neg c84)).symm
              subst hy2
              refine k_putN (ci := 4) (C := RX2) (T := TX2) (N := 10) (ty := tyX2 4) hx hb hts w_RX2 tyX2 tyX2_ok nmX2 hown hK hW hS (by first | assumption | exact up_s | (rw [up_n (by omega)]; first | assumption | exact up_s | (rw [up_n (by omega)]; first | assumption | exact up_s | (rw [up_n (by omega)]; first | assumption | exact up_s | (rw [up_n (by omega)]; first | assumption | exact up_s | (rw [up_n (by omega)]; first | assumption | exact up_s | (rw [up_n (by omega)]; first | assumption | exact up_s | (rw [up_n (by omega)]; first | assumption | exact up_s | (rw [up_n (by omega)]; first | assumption | exact up_s | (rw [up_n (by omega)]; first | assumption | exact up_s | (rw [up_n (by omega)]; first | assumption | exact up_s | (rw [up_n (by omega)]; first | assumption | exact up_s)))))))))))) (by omega) rfl 4 (by decide) (hq _ q679 rfl) (fun _ h9 => h9) rfl (by decide +kernel) rfl rfl (by first | exact Nat.le_of_ble_eq_true rfl | (simp only [List.length_set]; exact Nat.le_of_ble_eq_true rfl)) dX7_fit_92 (fun H locs hW hS => ?_)
              refine lv_iload_n hx hb dX7_fit_95 rfl (hL.at 3 rfl) ?_
              rw [hQ]
              exact vx_ret (k_iret hx hb hr hlocks hW hS (by omega) (by omega) dX7_fit_96 (⟨i, hi, hxi, hsh, hst1, rfl, Or.inr ⟨c40, rfl, by rw [← hcl]; exact (up_n (by omega)).trans ((up_n (by omega)).trans hv9), up_s, fun k a b => (up_n b).trans ((up_n b).trans (hr9 k a))⟩⟩))
            · try dsimp only at c84
              refine lv_iconst (v := 5) hx hb dX7_fit_87 (by decide) ?_
              refine lv_topi (fun y hy => ?_)
              have hy2 : y = nI (if fJudge M i = 3 then 5 else 3) := hy.trans (congrArg nI (if_pos (by first | exact c84 | exact Decidable.not_not.mp c84))).symm
              subst hy2
              refine lv_goto (tgt := 92) hx hb dX7_fit_88 (by decide) ?_
              refine k_putN (ci := 4) (C := RX2) (T := TX2) (N := 10) (ty := tyX2 4) hx hb hts w_RX2 tyX2 tyX2_ok nmX2 hown hK hW hS (by first | assumption | exact up_s | (rw [up_n (by omega)]; first | assumption | exact up_s | (rw [up_n (by omega)]; first | assumption | exact up_s | (rw [up_n (by omega)]; first | assumption | exact up_s | (rw [up_n (by omega)]; first | assumption | exact up_s | (rw [up_n (by omega)]; first | assumption | exact up_s | (rw [up_n (by omega)]; first | assumption | exact up_s | (rw [up_n (by omega)]; first | assumption | exact up_s | (rw [up_n (by omega)]; first | assumption | exact up_s | (rw [up_n (by omega)]; first | assumption | exact up_s | (rw [up_n (by omega)]; first | assumption | exact up_s | (rw [up_n (by omega)]; first | assumption | exact up_s)))))))))))) (by omega) rfl 4 (by decide) (hq _ q679 rfl) (fun _ h9 => h9) rfl (by decide +kernel) rfl rfl (by first | exact Nat.le_of_ble_eq_true rfl | (simp only [List.length_set]; exact Nat.le_of_ble_eq_true rfl)) dX7_fit_92 (fun H locs hW hS => ?_)
              refine lv_iload_n hx hb dX7_fit_95 rfl (hL.at 3 rfl) ?_
              rw [hQ]
              exact vx_ret (k_iret hx hb hr hlocks hW hS (by omega) (by omega) dX7_fit_96 (⟨i, hi, hxi, hsh, hst1, rfl, Or.inr ⟨c40, rfl, by rw [← hcl]; exact (up_n (by omega)).trans ((up_n (by omega)).trans hv9), up_s, fun k a b => (up_n b).trans ((up_n b).trans (hr9 k a))⟩⟩))
        · try dsimp only at c53
          have hj1 : fJudge M i = 1 := by first | exact c53 | exact Decidable.not_not.mp c53
          have hcl : fSpend (mClk M) cD1 = fFitC M i := (if_pos hj1).symm
          refine lv_aload_n hx hb dX7_fit_56 rfl (hL.at 0 rfl) ?_
          refine lv_dconst1 hx hb dX7_fit_57 ?_
          refine k_callV (q := (RX7, TX7, 15)) hx hb hml hown hts hK hI hS hW hL.1 (by first | assumption | exact up_s | (rw [up_n (by omega)]; first | assumption | exact up_s | (rw [up_n (by omega)]; first | assumption | exact up_s | (rw [up_n (by omega)]; first | assumption | exact up_s | (rw [up_n (by omega)]; first | assumption | exact up_s | (rw [up_n (by omega)]; first | assumption | exact up_s | (rw [up_n (by omega)]; first | assumption | exact up_s | (rw [up_n (by omega)]; first | assumption | exact up_s | (rw [up_n (by omega)]; first | assumption | exact up_s | (rw [up_n (by omega)]; first | assumption | exact up_s | (rw [up_n (by omega)]; first | assumption | exact up_s | (rw [up_n (by omega)]; first | assumption | exact up_s)))))))))))) rfl (c_spend G hm ho cD1 (spend_ok hN.2.1 dP_c1 (by omega))) (m5 (gT_in q733 rfl) (gT_in q735 rfl) (gT_in q24 rfl) (gT_in q55 rfl) (gT_in q736 rfl)) rfl (show kpar yX7_spend 1 from ⟨by decide, by decide, by decide +kernel⟩) ⟨by decide, by decide⟩ (by show _ ≤ (2 : Nat); omega) (by show _ ≤ (12 : Nat); omega) rfl (by first | decide | exact Nat.le_of_ble_eq_true rfl) dX7_fit_58 (fun v ad58 ct58 H locs hp hW hS => ?_)
          obtain ⟨rfl, h1, hv9, hr9⟩ := hp
          rw [h1] at hW
          have oo9 := (hr9 (64 + i) (by omega)).trans oo
          refine lv_goto (tgt := 76) hx hb dX7_fit_61 (by decide) ?_
          refine lv_aload_n hx hb dX7_fit_76 rfl (hL.at 2 rfl) ?_
          refine lv_iload_n hx hb dX7_fit_77 rfl (hL.at 3 rfl) ?_
          refine k_putN (ci := 4) (C := RX2) (T := TX2) (N := 10) (ty := tyX2 9) hx hb hts w_RX2 tyX2 tyX2_ok nmX2 hown hK hW hS (by first | assumption | exact up_s | (rw [up_n (by omega)]; first | assumption | exact up_s | (rw [up_n (by omega)]; first | assumption | exact up_s | (rw [up_n (by omega)]; first | assumption | exact up_s | (rw [up_n (by omega)]; first | assumption | exact up_s | (rw [up_n (by omega)]; first | assumption | exact up_s | (rw [up_n (by omega)]; first | assumption | exact up_s | (rw [up_n (by omega)]; first | assumption | exact up_s | (rw [up_n (by omega)]; first | assumption | exact up_s | (rw [up_n (by omega)]; first | assumption | exact up_s | (rw [up_n (by omega)]; first | assumption | exact up_s | (rw [up_n (by omega)]; first | assumption | exact up_s)))))))))))) (by omega) rfl 9 (by decide) (hq _ q689 rfl) (fun _ h9 => h9) rfl (by decide +kernel) rfl rfl (by first | exact Nat.le_of_ble_eq_true rfl | (simp only [List.length_set]; exact Nat.le_of_ble_eq_true rfl)) dX7_fit_78 (fun H locs hW hS => ?_)
          refine lv_aload_n hx hb dX7_fit_81 rfl (hL.at 2 rfl) ?_
          refine lv_iload_n hx hb dX7_fit_82 rfl (hL.at 3 rfl) ?_
          refine lv_iconst (v := 3) hx hb dX7_fit_83 (by decide) ?_
          refine lv_icmp_ne (tgt := 91) hx hb dX7_fit_84 (by decide) (fun c84 => ?_) (fun c84 => ?_)
          · try dsimp only at c84
            refine lv_iconst (v := 3) hx hb dX7_fit_91 (by decide) ?_
            refine lv_topi (fun y hy => ?_)
            have hy2 : y = nI (if fJudge M i = 3 then 5 else 3) := hy.trans (congrArg nI (if_neg c84)).symm
            subst hy2
            refine k_putN (ci := 4) (C := RX2) (T := TX2) (N := 10) (ty := tyX2 4) hx hb hts w_RX2 tyX2 tyX2_ok nmX2 hown hK hW hS (by first | assumption | exact up_s | (rw [up_n (by omega)]; first | assumption | exact up_s | (rw [up_n (by omega)]; first | assumption | exact up_s | (rw [up_n (by omega)]; first | assumption | exact up_s | (rw [up_n (by omega)]; first | assumption | exact up_s | (rw [up_n (by omega)]; first | assumption | exact up_s | (rw [up_n (by omega)]; first | assumption | exact up_s | (rw [up_n (by omega)]; first | assumption | exact up_s | (rw [up_n (by omega)]; first | assumption | exact up_s | (rw [up_n (by omega)]; first | assumption | exact up_s | (rw [up_n (by omega)]; first | assumption | exact up_s | (rw [up_n (by omega)]; first | assumption | exact up_s)))))))))))) (by omega) rfl 4 (by decide) (hq _ q679 rfl) (fun _ h9 => h9) rfl (by decide +kernel) rfl rfl (by first | exact Nat.le_of_ble_eq_true rfl | (simp only [List.length_set]; exact Nat.le_of_ble_eq_true rfl)) dX7_fit_92 (fun H locs hW hS => ?_)
            refine lv_iload_n hx hb dX7_fit_95 rfl (hL.at 3 rfl) ?_
            rw [hQ]
            exact vx_ret (k_iret hx hb hr hlocks hW hS (by omega) (by omega) dX7_fit_96 (⟨i, hi, hxi, hsh, hst1, rfl, Or.inr ⟨c40, rfl, by rw [← hcl]; exact (up_n (by omega)).trans ((up_n (by omega)).trans hv9), up_s, fun k a b => (up_n b).trans ((up_n b).trans (hr9 k a))⟩⟩))
          · try dsimp only at c84
            refine lv_iconst (v := 5) hx hb dX7_fit_87 (by decide) ?_
            refine lv_topi (fun y hy => ?_)
            have hy2 : y = nI (if fJudge M i = 3 then 5 else 3) := hy.trans (congrArg nI (if_pos (by first | exact c84 | exact Decidable.not_not.mp c84))).symm
            subst hy2
            refine lv_goto (tgt := 92) hx hb dX7_fit_88 (by decide) ?_
            refine k_putN (ci := 4) (C := RX2) (T := TX2) (N := 10) (ty := tyX2 4) hx hb hts w_RX2 tyX2 tyX2_ok nmX2 hown hK hW hS (by first | assumption | exact up_s | (rw [up_n (by omega)]; first | assumption | exact up_s | (rw [up_n (by omega)]; first | assumption | exact up_s | (rw [up_n (by omega)]; first | assumption | exact up_s | (rw [up_n (by omega)]; first | assumption | exact up_s | (rw [up_n (by omega)]; first | assumption | exact up_s | (rw [up_n (by omega)]; first | assumption | exact up_s | (rw [up_n (by omega)]; first | assumption | exact up_s | (rw [up_n (by omega)]; first | assumption | exact up_s | (rw [up_n (by omega)]; first | assumption | exact up_s | (rw [up_n (by omega)]; first | assumption | exact up_s | (rw [up_n (by omega)]; first | assumption | exact up_s)))))))))))) (by omega) rfl 4 (by decide) (hq _ q679 rfl) (fun _ h9 => h9) rfl (by decide +kernel) rfl rfl (by first | exact Nat.le_of_ble_eq_true rfl | (simp only [List.length_set]; exact Nat.le_of_ble_eq_true rfl)) dX7_fit_92 (fun H locs hW hS => ?_)
            refine lv_iload_n hx hb dX7_fit_95 rfl (hL.at 3 rfl) ?_
            rw [hQ]
            exact vx_ret (k_iret hx hb hr hlocks hW hS (by omega) (by omega) dX7_fit_96 (⟨i, hi, hxi, hsh, hst1, rfl, Or.inr ⟨c40, rfl, by rw [← hcl]; exact (up_n (by omega)).trans ((up_n (by omega)).trans hv9), up_s, fun k a b => (up_n b).trans ((up_n b).trans (hr9 k a))⟩⟩))
      · rw [cl_le] at c40
        refine lv_bipush (v := (-2)) hx hb dX7_fit_43 (by decide) ?_
        rw [hQ]
        exact vx_ret (k_iret hx hb hr hlocks hW hS (by omega) (by omega) dX7_fit_45 (⟨i, hi, hxi, hsh, hst1, rfl, Or.inl ⟨Decidable.not_not.mp c40, rfl, rfl⟩⟩))
    · try dsimp only at c18
      have hrf : ¬ mShut M = 0 ∨ ¬ oState (mod M i) = 2 := Or.inr (fun z => c18 (by rw [z]; rfl))
      rw [hQ]
      exact k_throw G hx hb hlocks (names := ["java/lang/RuntimeException", "java/lang/Exception"]) hown hts hq hI (by decide) (by decide) (gT_in q449 rfl) (gT_in q65 rfl) 24 rfl (fun w hw => hq w (at_65 w hw).1 (at_65 w hw).2) ot_65 hW hS (hL.1.trans hml.symm) hin dX7_fit_21 dX7_fit_24 dX7_fit_25 dX7_fit_27 dX7_fit_30 (by decide) (by decide) (by show _ ≤ (2 : Nat); omega) (by show _ ≤ (12 : Nat); omega) (by omega) (by omega) (Or.inr ⟨rfl, i, hi, hxi, hrf⟩)

set_option maxHeartbeats 8000000 in
set_option maxRecDepth 100000 in
/-- TailorBench.give  -/
theorem c_give {l : Launch} {D : va_G} {cy : Nat → ClassId} {sad : Nat → Nat} {em : Nat} {s0 : State} {a0 : Array Value} (G : kG kSTR l D cy sad em s0 a0) {ad : Nat → Nat} {ct : Nat → Option va_E} {M : tM} (hm : RepC cy ad ct M) (ho : okM M) {nb : Nat} (hN : okN nb M) (x : Int32) :
    KX l yX7_give [.code yX7_give prog_1_method_13_code 5 (some .int)] 7 120 2 12 [.ref (ad 1), .int x] D s0 ad ct (fun v ad' ct' => ∃ i, i < mO M ∧ x = nI i ∧ mShut M = 0 ∧ oState (mod M i) = 3 ∧ v = some (.int (fGive M i)) ∧ ad' = ad ∧ ct' 1 = some (oShop ad (sSh M (mClk M, mPur M + fGive M i, M.2.1.2.2))) ∧ ct' (64 + i) = some (oOr ad i (fGiveO M i)) ∧ ∀ k, k ≠ 1 → k ≠ 64 + i → ct' k = ct k) (fun E => (E = eIdx ∧ ¬ kIn x (mO M)) ∨ (E = eSta ∧ ∃ i, i < mO M ∧ x = nI i ∧ (¬ mShut M = 0 ∨ ¬ oState (mod M i) = 3))) := by
  refine KX.of G (by decide) (Nat.le_of_ble_eq_true rfl) (Nat.le_of_ble_eq_true rfl) ?_
  intro p e s m args below meth c ls Q hQ X hin hL hW hS
  obtain ⟨hx, hb, hr, hml, hown, hlocks, hts, hq, hK, hI⟩ := X
  have hbn := ho.1
  have hs1 := hm.1
  refine lv_aload_n hx hb dX7_give_0 rfl (hL.at 0 rfl) ?_
  refine lv_iload_n hx hb dX7_give_1 rfl (hL.at 1 rfl) ?_
  refine k_callVX (q := (RX7, TX7, 15)) hx hb hml hown hts hK hI hS hW hL.1 (by first | assumption | exact up_s | (rw [up_n (by omega)]; first | assumption | exact up_s | (rw [up_n (by omega)]; first | assumption | exact up_s | (rw [up_n (by omega)]; first | assumption | exact up_s | (rw [up_n (by omega)]; first | assumption | exact up_s | (rw [up_n (by omega)]; first | assumption | exact up_s | (rw [up_n (by omega)]; first | assumption | exact up_s | (rw [up_n (by omega)]; first | assumption | exact up_s | (rw [up_n (by omega)]; first | assumption | exact up_s | (rw [up_n (by omega)]; first | assumption | exact up_s | (rw [up_n (by omega)]; first | assumption | exact up_s | (rw [up_n (by omega)]; first | assumption | exact up_s)))))))))))) rfl (c_orderAt G hm ho x) (m5 (gT_in q325 rfl) (gT_in q327 rfl) (gT_in q3 rfl) (gT_in q55 rfl) (gT_in q328 rfl)) rfl (show kpar yX7_orderAt 1 from ⟨by decide, by decide, by decide +kernel⟩) ⟨by decide, by decide⟩ (by show _ ≤ (2 : Nat); omega) (by show _ ≤ (12 : Nat); omega) rfl (by first | decide | exact Nat.le_of_ble_eq_true rfl) dX7_give_2 (fun E ce q9 H locs hp hW hS hce hcv hcl => ?_) (fun v ad2 ct2 H locs hp hW hS => ?_)
  · rw [hQ]; exact k_out hown hlocks hin hW hS hce hcv hcl (by omega) (by omega) (Or.inl hp)
  obtain ⟨i, hi, hxi, rfl, h1, h2⟩ := hp
  rw [h1, h2] at hW
  refine k_ast_n hx hb hL (i := 2) rfl (by decide) dX7_give_5 (fun ls hL => ?_)
  obtain ⟨oo, ob, os, oa, op, ow, oms, o5, ok, opos, ost⟩ := hm.ord ho hi
  refine lv_aload_n hx hb dX7_give_6 rfl (hL.at 0 rfl) ?_
  refine k_get (ci := 9) (C := RX7) (T := TX7) (N := 15) hx hb hts w_RX7 hown hK hW (by first | assumption | exact up_s | (rw [up_n (by omega)]; first | assumption | exact up_s | (rw [up_n (by omega)]; first | assumption | exact up_s | (rw [up_n (by omega)]; first | assumption | exact up_s | (rw [up_n (by omega)]; first | assumption | exact up_s | (rw [up_n (by omega)]; first | assumption | exact up_s | (rw [up_n (by omega)]; first | assumption | exact up_s | (rw [up_n (by omega)]; first | assumption | exact up_s | (rw [up_n (by omega)]; first | assumption | exact up_s | (rw [up_n (by omega)]; first | assumption | exact up_s | (rw [up_n (by omega)]; first | assumption | exact up_s | (rw [up_n (by omega)]; first | assumption | exact up_s)))))))))))) rfl 14 (by decide) (hq _ q163 rfl) (fun _ h9 => h9) (by rfl) dX7_give_7 ?_
  refine lv_if_ne (tgt := 21) hx hb dX7_give_10 (by decide) (fun c10 => ?_) (fun c10 => ?_)
  · try simp only [b2_eq, Decidable.not_not] at c10
    try dsimp only at c10
    have hrf : ¬ mShut M = 0 ∨ ¬ oState (mod M i) = 3 := Or.inl (by first | exact c10 | exact Decidable.not_not.mp c10)
    rw [hQ]
    exact k_throwW G hx hb hlocks (names := ["java/lang/RuntimeException", "java/lang/Exception"]) hown hts hq hI (by decide) (by decide) (gT_in q449 rfl) (gT_in q65 rfl) 25 rfl (fun w hw => hq w (at_65 w hw).1 (at_65 w hw).2) ot_65 hW hS (hL.1.trans hml.symm) hin dX7_give_21 dX7_give_24 dX7_give_25 dX7_give_28 dX7_give_31 (by decide) (by decide) (by show _ ≤ (2 : Nat); omega) (by show _ ≤ (12 : Nat); omega) (by omega) (by omega) (Or.inr ⟨rfl, i, hi, hxi, hrf⟩)
  · try simp only [b2_eq, Decidable.not_not] at c10
    try dsimp only at c10
    have hsh : mShut M = 0 := by first | exact c10 | exact Decidable.not_not.mp c10
    refine lv_aload_n hx hb dX7_give_13 rfl (hL.at 2 rfl) ?_
    refine k_getN (ci := 4) (C := RX2) (T := TX2) (N := 10) hx hb hts w_RX2 hown hK hW (by first | assumption | exact up_s | (rw [up_n (by omega)]; first | assumption | exact up_s | (rw [up_n (by omega)]; first | assumption | exact up_s | (rw [up_n (by omega)]; first | assumption | exact up_s | (rw [up_n (by omega)]; first | assumption | exact up_s | (rw [up_n (by omega)]; first | assumption | exact up_s | (rw [up_n (by omega)]; first | assumption | exact up_s | (rw [up_n (by omega)]; first | assumption | exact up_s | (rw [up_n (by omega)]; first | assumption | exact up_s | (rw [up_n (by omega)]; first | assumption | exact up_s | (rw [up_n (by omega)]; first | assumption | exact up_s | (rw [up_n (by omega)]; first | assumption | exact up_s)))))))))))) rfl 4 (by decide) (hq _ q679 rfl) (fun _ h9 => h9) (by rfl) dX7_give_14 ?_
    refine lv_iconst (v := 3) hx hb dX7_give_17 (by decide) ?_
    refine lv_icmp_eq (tgt := 32) hx hb dX7_give_18 (by decide) (fun c18 => ?_) (fun c18 => ?_)
    · try dsimp only at c18
      have hst1 : oState (mod M i) = 3 := (nI_eq (a := oState (mod M i)) (b := 3) (by omega) (by omega)).mp c18
      refine lv_aload_n hx hb dX7_give_32 rfl (hL.at 0 rfl) ?_
      refine k_get (ci := 9) (C := RX7) (T := TX7) (N := 15) hx hb hts w_RX7 hown hK hW (by first | assumption | exact up_s | (rw [up_n (by omega)]; first | assumption | exact up_s | (rw [up_n (by omega)]; first | assumption | exact up_s | (rw [up_n (by omega)]; first | assumption | exact up_s | (rw [up_n (by omega)]; first | assumption | exact up_s | (rw [up_n (by omega)]; first | assumption | exact up_s | (rw [up_n (by omega)]; first | assumption | exact up_s | (rw [up_n (by omega)]; first | assumption | exact up_s | (rw [up_n (by omega)]; first | assumption | exact up_s | (rw [up_n (by omega)]; first | assumption | exact up_s | (rw [up_n (by omega)]; first | assumption | exact up_s | (rw [up_n (by omega)]; first | assumption | exact up_s)))))))))))) rfl 11 (by decide) (hq _ q160 rfl) (fun _ h9 => h9) (by rfl) dX7_give_33 ?_
      refine lv_aload_n hx hb dX7_give_36 rfl (hL.at 2 rfl) ?_
      refine k_getN (ci := 4) (C := RX2) (T := TX2) (N := 10) hx hb hts w_RX2 hown hK hW (by first | assumption | exact up_s | (rw [up_n (by omega)]; first | assumption | exact up_s | (rw [up_n (by omega)]; first | assumption | exact up_s | (rw [up_n (by omega)]; first | assumption | exact up_s | (rw [up_n (by omega)]; first | assumption | exact up_s | (rw [up_n (by omega)]; first | assumption | exact up_s | (rw [up_n (by omega)]; first | assumption | exact up_s | (rw [up_n (by omega)]; first | assumption | exact up_s | (rw [up_n (by omega)]; first | assumption | exact up_s | (rw [up_n (by omega)]; first | assumption | exact up_s | (rw [up_n (by omega)]; first | assumption | exact up_s | (rw [up_n (by omega)]; first | assumption | exact up_s)))))))))))) rfl 2 (by decide) (hq _ q676 rfl) (fun _ h9 => h9) (by rfl) dX7_give_37 ?_
      refine lv_i2d hx hb dX7_give_40 ?_
      refine lv_dcmp hx hb dX7_give_41 ?_
      refine lv_if_le (tgt := 63) hx hb dX7_give_42 (by decide) (fun c42 => ?_) (fun c42 => ?_)
      · rw [cl_le] at c42
        refine lv_iconst (v := 0) hx hb dX7_give_63 (by decide) ?_
        refine lv_topi (fun y hy => ?_)
        have hy2 : y = fLate M i := hy.trans (if_neg c42).symm
        subst hy2
        refine k_ist_n hx hb hL (i := 3) rfl (by decide) dX7_give_64 (fun ls hL => ?_)
        refine lv_bipush (v := 20) hx hb dX7_give_65 (by decide) ?_
        refine lv_iconst (v := 5) hx hb dX7_give_67 (by decide) ?_
        refine lv_aload_n hx hb dX7_give_68 rfl (hL.at 2 rfl) ?_
        refine k_getN (ci := 4) (C := RX2) (T := TX2) (N := 10) hx hb hts w_RX2 hown hK hW (by first | assumption | exact up_s | (rw [up_n (by omega)]; first | assumption | exact up_s | (rw [up_n (by omega)]; first | assumption | exact up_s | (rw [up_n (by omega)]; first | assumption | exact up_s | (rw [up_n (by omega)]; first | assumption | exact up_s | (rw [up_n (by omega)]; first | assumption | exact up_s | (rw [up_n (by omega)]; first | assumption | exact up_s | (rw [up_n (by omega)]; first | assumption | exact up_s | (rw [up_n (by omega)]; first | assumption | exact up_s | (rw [up_n (by omega)]; first | assumption | exact up_s | (rw [up_n (by omega)]; first | assumption | exact up_s | (rw [up_n (by omega)]; first | assumption | exact up_s)))))))))))) rfl 1 (by decide) (hq _ q674 rfl) (fun _ h9 => h9) (by rfl) dX7_give_69 ?_
        refine k_getN (ci := 7) (C := RX5) (T := TX5) (N := 5) hx hb hts w_RX5 hown hK hW (by first | assumption | exact up_s | (rw [up_n (by omega)]; first | assumption | exact up_s | (rw [up_n (by omega)]; first | assumption | exact up_s | (rw [up_n (by omega)]; first | assumption | exact up_s | (rw [up_n (by omega)]; first | assumption | exact up_s | (rw [up_n (by omega)]; first | assumption | exact up_s | (rw [up_n (by omega)]; first | assumption | exact up_s | (rw [up_n (by omega)]; first | assumption | exact up_s | (rw [up_n (by omega)]; first | assumption | exact up_s | (rw [up_n (by omega)]; first | assumption | exact up_s | (rw [up_n (by omega)]; first | assumption | exact up_s | (rw [up_n (by omega)]; first | assumption | exact up_s)))))))))))) rfl 3 (by decide) (hq _ q582 rfl) (fun _ h9 => h9) (by rfl) dX7_give_72 ?_
        refine lv_imul hx hb dX7_give_75 ?_
        refine lv_iadd hx hb dX7_give_76 ?_
        refine lv_aload_n hx hb dX7_give_77 rfl (hL.at 2 rfl) ?_
        refine k_getN (ci := 4) (C := RX2) (T := TX2) (N := 10) hx hb hts w_RX2 hown hK hW (by first | assumption | exact up_s | (rw [up_n (by omega)]; first | assumption | exact up_s | (rw [up_n (by omega)]; first | assumption | exact up_s | (rw [up_n (by omega)]; first | assumption | exact up_s | (rw [up_n (by omega)]; first | assumption | exact up_s | (rw [up_n (by omega)]; first | assumption | exact up_s | (rw [up_n (by omega)]; first | assumption | exact up_s | (rw [up_n (by omega)]; first | assumption | exact up_s | (rw [up_n (by omega)]; first | assumption | exact up_s | (rw [up_n (by omega)]; first | assumption | exact up_s | (rw [up_n (by omega)]; first | assumption | exact up_s | (rw [up_n (by omega)]; first | assumption | exact up_s)))))))))))) rfl 6 (by decide) (hq _ q683 rfl) (fun _ h9 => h9) (by rfl) dX7_give_78 ?_
        refine lv_isub hx hb dX7_give_81 ?_
        refine lv_iconst (v := 3) hx hb dX7_give_82 (by decide) ?_
        refine lv_iload_n hx hb dX7_give_83 rfl (hL.at 3 rfl) ?_
        refine lv_imul hx hb dX7_give_84 ?_
        refine lv_isub hx hb dX7_give_85 ?_
        refine lv_topi (fun y hy => ?_)
        have hy2 : y = fGive M i := hy
        subst hy2
        refine k_ist hx hb hL (i := 4) (by decide) dX7_give_86 (fun ls hL => ?_)
        refine lv_aload_n hx hb dX7_give_88 rfl (hL.at 0 rfl) ?_
        refine lv_dup hx hb dX7_give_89 rfl ?_
        refine k_get (ci := 9) (C := RX7) (T := TX7) (N := 15) hx hb hts w_RX7 hown hK hW (by first | assumption | exact up_s | (rw [up_n (by omega)]; first | assumption | exact up_s | (rw [up_n (by omega)]; first | assumption | exact up_s | (rw [up_n (by omega)]; first | assumption | exact up_s | (rw [up_n (by omega)]; first | assumption | exact up_s | (rw [up_n (by omega)]; first | assumption | exact up_s | (rw [up_n (by omega)]; first | assumption | exact up_s | (rw [up_n (by omega)]; first | assumption | exact up_s | (rw [up_n (by omega)]; first | assumption | exact up_s | (rw [up_n (by omega)]; first | assumption | exact up_s | (rw [up_n (by omega)]; first | assumption | exact up_s | (rw [up_n (by omega)]; first | assumption | exact up_s)))))))))))) rfl 12 (by decide) (hq _ q161 rfl) (fun _ h9 => h9) (by rfl) dX7_give_90 ?_
        refine lv_iload hx hb dX7_give_93 (hL.at 4 rfl) ?_
        refine lv_iadd hx hb dX7_give_95 ?_
        refine k_put (ci := 9) (C := RX7) (T := TX7) (N := 15) (ty := tyX7 12) hx hb hts w_RX7 tyX7 tyX7_ok nmX7 hown hK hW hS (by first | assumption | exact up_s | (rw [up_n (by omega)]; first | assumption | exact up_s | (rw [up_n (by omega)]; first | assumption | exact up_s | (rw [up_n (by omega)]; first | assumption | exact up_s | (rw [up_n (by omega)]; first | assumption | exact up_s | (rw [up_n (by omega)]; first | assumption | exact up_s | (rw [up_n (by omega)]; first | assumption | exact up_s | (rw [up_n (by omega)]; first | assumption | exact up_s | (rw [up_n (by omega)]; first | assumption | exact up_s | (rw [up_n (by omega)]; first | assumption | exact up_s | (rw [up_n (by omega)]; first | assumption | exact up_s | (rw [up_n (by omega)]; first | assumption | exact up_s)))))))))))) (by omega) rfl 12 (by decide) (hq _ q161 rfl) (fun _ h9 => h9) rfl (by decide +kernel) rfl rfl (by first | exact Nat.le_of_ble_eq_true rfl | (simp only [List.length_set]; exact Nat.le_of_ble_eq_true rfl)) dX7_give_96 (fun H locs hW hS => ?_)
        refine lv_aload_n hx hb dX7_give_99 rfl (hL.at 2 rfl) ?_
        refine lv_iconst (v := 4) hx hb dX7_give_100 (by decide) ?_
        refine lv_topi (fun y hy => ?_)
        have hy2 : y = nI 4 := hy
        subst hy2
        refine k_putN (ci := 4) (C := RX2) (T := TX2) (N := 10) (ty := tyX2 4) hx hb hts w_RX2 tyX2 tyX2_ok nmX2 hown hK hW hS (by first | assumption | exact up_s | (rw [up_n (by omega)]; first | assumption | exact up_s | (rw [up_n (by omega)]; first | assumption | exact up_s | (rw [up_n (by omega)]; first | assumption | exact up_s | (rw [up_n (by omega)]; first | assumption | exact up_s | (rw [up_n (by omega)]; first | assumption | exact up_s | (rw [up_n (by omega)]; first | assumption | exact up_s | (rw [up_n (by omega)]; first | assumption | exact up_s | (rw [up_n (by omega)]; first | assumption | exact up_s | (rw [up_n (by omega)]; first | assumption | exact up_s | (rw [up_n (by omega)]; first | assumption | exact up_s | (rw [up_n (by omega)]; first | assumption | exact up_s)))))))))))) (by omega) rfl 4 (by decide) (hq _ q679 rfl) (fun _ h9 => h9) rfl (by decide +kernel) rfl rfl (by first | exact Nat.le_of_ble_eq_true rfl | (simp only [List.length_set]; exact Nat.le_of_ble_eq_true rfl)) dX7_give_101 (fun H locs hW hS => ?_)
        refine lv_iload hx hb dX7_give_104 (hL.at 4 rfl) ?_
        rw [hQ]
        exact vx_ret (k_iret hx hb hr hlocks hW hS (by omega) (by omega) dX7_give_106 (⟨i, hi, hxi, hsh, hst1, rfl, rfl, (up_n (by omega)).trans (up_s), up_s, fun k a b => (up_n b).trans (up_n a)⟩))
      · rw [cl_le] at c42
        refine lv_aload_n hx hb dX7_give_45 rfl (hL.at 0 rfl) ?_
        refine k_get (ci := 9) (C := RX7) (T := TX7) (N := 15) hx hb hts w_RX7 hown hK hW (by first | assumption | exact up_s | (rw [up_n (by omega)]; first | assumption | exact up_s | (rw [up_n (by omega)]; first | assumption | exact up_s | (rw [up_n (by omega)]; first | assumption | exact up_s | (rw [up_n (by omega)]; first | assumption | exact up_s | (rw [up_n (by omega)]; first | assumption | exact up_s | (rw [up_n (by omega)]; first | assumption | exact up_s | (rw [up_n (by omega)]; first | assumption | exact up_s | (rw [up_n (by omega)]; first | assumption | exact up_s | (rw [up_n (by omega)]; first | assumption | exact up_s | (rw [up_n (by omega)]; first | assumption | exact up_s | (rw [up_n (by omega)]; first | assumption | exact up_s)))))))))))) rfl 11 (by decide) (hq _ q160 rfl) (fun _ h9 => h9) (by rfl) dX7_give_46 ?_
        refine lv_aload_n hx hb dX7_give_49 rfl (hL.at 2 rfl) ?_
        refine k_getN (ci := 4) (C := RX2) (T := TX2) (N := 10) hx hb hts w_RX2 hown hK hW (by first | assumption | exact up_s | (rw [up_n (by omega)]; first | assumption | exact up_s | (rw [up_n (by omega)]; first | assumption | exact up_s | (rw [up_n (by omega)]; first | assumption | exact up_s | (rw [up_n (by omega)]; first | assumption | exact up_s | (rw [up_n (by omega)]; first | assumption | exact up_s | (rw [up_n (by omega)]; first | assumption | exact up_s | (rw [up_n (by omega)]; first | assumption | exact up_s | (rw [up_n (by omega)]; first | assumption | exact up_s | (rw [up_n (by omega)]; first | assumption | exact up_s | (rw [up_n (by omega)]; first | assumption | exact up_s | (rw [up_n (by omega)]; first | assumption | exact up_s)))))))))))) rfl 2 (by decide) (hq _ q676 rfl) (fun _ h9 => h9) (by rfl) dX7_give_50 ?_
        refine lv_i2d hx hb dX7_give_53 ?_
        refine lv_dsub hx hb dX7_give_54 (late_no hN.2.1 _).1 ?_
        refine lv_ldc2d hx hb hown (hq _ q770 rfl) dX7_give_55 ?_
        refine lv_ddiv hx hb dX7_give_58 (late_no hN.2.1 _).2 ?_
        refine lv_d2i hx hb dX7_give_59 ?_
        refine lv_topi (fun y hy => ?_)
        have hy2 : y = fLate M i := hy.trans (if_pos (Decidable.not_not.mp c42)).symm
        subst hy2
        refine lv_goto (tgt := 64) hx hb dX7_give_60 (by decide) ?_
        refine k_ist_n hx hb hL (i := 3) rfl (by decide) dX7_give_64 (fun ls hL => ?_)
        refine lv_bipush (v := 20) hx hb dX7_give_65 (by decide) ?_
        refine lv_iconst (v := 5) hx hb dX7_give_67 (by decide) ?_
        refine lv_aload_n hx hb dX7_give_68 rfl (hL.at 2 rfl) ?_
        refine k_getN (ci := 4) (C := RX2) (T := TX2) (N := 10) hx hb hts w_RX2 hown hK hW (by first | assumption | exact up_s | (rw [up_n (by omega)]; first | assumption | exact up_s | (rw [up_n (by omega)]; first | assumption | exact up_s | (rw [up_n (by omega)]; first | assumption | exact up_s | (rw [up_n (by omega)]; first | assumption | exact up_s | (rw [up_n (by omega)]; first | assumption | exact up_s | (rw [up_n (by omega)]; first | assumption | exact up_s | (rw [up_n (by omega)]; first | assumption | exact up_s | (rw [up_n (by omega)]; first | assumption | exact up_s | (rw [up_n (by omega)]; first | assumption | exact up_s | (rw [up_n (by omega)]; first | assumption | exact up_s | (rw [up_n (by omega)]; first | assumption | exact up_s)))))))))))) rfl 1 (by decide) (hq _ q674 rfl) (fun _ h9 => h9) (by rfl) dX7_give_69 ?_
        refine k_getN (ci := 7) (C := RX5) (T := TX5) (N := 5) hx hb hts w_RX5 hown hK hW (by first | assumption | exact up_s | (rw [up_n (by omega)]; first | assumption | exact up_s | (rw [up_n (by omega)]; first | assumption | exact up_s | (rw [up_n (by omega)]; first | assumption | exact up_s | (rw [up_n (by omega)]; first | assumption | exact up_s | (rw [up_n (by omega)]; first | assumption | exact up_s | (rw [up_n (by omega)]; first | assumption | exact up_s | (rw [up_n (by omega)]; first | assumption | exact up_s | (rw [up_n (by omega)]; first | assumption | exact up_s | (rw [up_n (by omega)]; first | assumption | exact up_s | (rw [up_n (by omega)]; first | assumption | exact up_s | (rw [up_n (by omega)]; first | assumption | exact up_s)))))))))))) rfl 3 (by decide) (hq _ q582 rfl) (fun _ h9 => h9) (by rfl) dX7_give_72 ?_
        refine lv_imul hx hb dX7_give_75 ?_
        refine lv_iadd hx hb dX7_give_76 ?_
        refine lv_aload_n hx hb dX7_give_77 rfl (hL.at 2 rfl) ?_
        refine k_getN (ci := 4) (C := RX2) (T := TX2) (N := 10) hx hb hts w_RX2 hown hK hW (by first | assumption | exact up_s | (rw [up_n (by omega)]; first | assumption | exact up_s | (rw [up_n (by omega)]; first | assumption | exact up_s | (rw [up_n (by omega)]; first | assumption | exact up_s | (rw [up_n (by omega)]; first | assumption | exact up_s | (rw [up_n (by omega)]; first | assumption | exact up_s | (rw [up_n (by omega)]; first | assumption | exact up_s | (rw [up_n (by omega)]; first | assumption | exact up_s | (rw [up_n (by omega)]; first | assumption | exact up_s | (rw [up_n (by omega)]; first | assumption | exact up_s | (rw [up_n (by omega)]; first | assumption | exact up_s | (rw [up_n (by omega)]; first | assumption | exact up_s)))))))))))) rfl 6 (by decide) (hq _ q683 rfl) (fun _ h9 => h9) (by rfl) dX7_give_78 ?_
        refine lv_isub hx hb dX7_give_81 ?_
        refine lv_iconst (v := 3) hx hb dX7_give_82 (by decide) ?_
        refine lv_iload_n hx hb dX7_give_83 rfl (hL.at 3 rfl) ?_
        refine lv_imul hx hb dX7_give_84 ?_
        refine lv_isub hx hb dX7_give_85 ?_
        refine lv_topi (fun y hy => ?_)
        have hy2 : y = fGive M i := hy
        subst hy2
        refine k_ist hx hb hL (i := 4) (by decide) dX7_give_86 (fun ls hL => ?_)
        refine lv_aload_n hx hb dX7_give_88 rfl (hL.at 0 rfl) ?_
        refine lv_dup hx hb dX7_give_89 rfl ?_
        refine k_get (ci := 9) (C := RX7) (T := TX7) (N := 15) hx hb hts w_RX7 hown hK hW (by first | assumption | exact up_s | (rw [up_n (by omega)]; first | assumption | exact up_s | (rw [up_n (by omega)]; first | assumption | exact up_s | (rw [up_n (by omega)]; first | assumption | exact up_s | (rw [up_n (by omega)]; first | assumption | exact up_s | (rw [up_n (by omega)]; first | assumption | exact up_s | (rw [up_n (by omega)]; first | assumption | exact up_s | (rw [up_n (by omega)]; first | assumption | exact up_s | (rw [up_n (by omega)]; first | assumption | exact up_s | (rw [up_n (by omega)]; first | assumption | exact up_s | (rw [up_n (by omega)]; first | assumption | exact up_s | (rw [up_n (by omega)]; first | assumption | exact up_s)))))))))))) rfl 12 (by decide) (hq _ q161 rfl) (fun _ h9 => h9) (by rfl) dX7_give_90 ?_
        refine lv_iload hx hb dX7_give_93 (hL.at 4 rfl) ?_
        refine lv_iadd hx hb dX7_give_95 ?_
        refine k_put (ci := 9) (C := RX7) (T := TX7) (N := 15) (ty := tyX7 12) hx hb hts w_RX7 tyX7 tyX7_ok nmX7 hown hK hW hS (by first | assumption | exact up_s | (rw [up_n (by omega)]; first | assumption | exact up_s | (rw [up_n (by omega)]; first | assumption | exact up_s | (rw [up_n (by omega)]; first | assumption | exact up_s | (rw [up_n (by omega)]; first | assumption | exact up_s | (rw [up_n (by omega)]; first | assumption | exact up_s | (rw [up_n (by omega)]; first | assumption | exact up_s | (rw [up_n (by omega)]; first | assumption | exact up_s | (rw [up_n (by omega)]; first | assumption | exact up_s | (rw [up_n (by omega)]; first | assumption | exact up_s | (rw [up_n (by omega)]; first | assumption | exact up_s | (rw [up_n (by omega)]; first | assumption | exact up_s)))))))))))) (by omega) rfl 12 (by decide) (hq _ q161 rfl) (fun _ h9 => h9) rfl (by decide +kernel) rfl rfl (by first | exact Nat.le_of_ble_eq_true rfl | (simp only [List.length_set]; exact Nat.le_of_ble_eq_true rfl)) dX7_give_96 (fun H locs hW hS => ?_)
        refine lv_aload_n hx hb dX7_give_99 rfl (hL.at 2 rfl) ?_
        refine lv_iconst (v := 4) hx hb dX7_give_100 (by decide) ?_
        refine lv_topi (fun y hy => ?_)
        have hy2 : y = nI 4 := hy
        subst hy2
        refine k_putN (ci := 4) (C := RX2) (T := TX2) (N := 10) (ty := tyX2 4) hx hb hts w_RX2 tyX2 tyX2_ok nmX2 hown hK hW hS (by first | assumption | exact up_s | (rw [up_n (by omega)]; first | assumption | exact up_s | (rw [up_n (by omega)]; first | assumption | exact up_s | (rw [up_n (by omega)]; first | assumption | exact up_s | (rw [up_n (by omega)]; first | assumption | exact up_s | (rw [up_n (by omega)]; first | assumption | exact up_s | (rw [up_n (by omega)]; first | assumption | exact up_s | (rw [up_n (by omega)]; first | assumption | exact up_s | (rw [up_n (by omega)]; first | assumption | exact up_s | (rw [up_n (by omega)]; first | assumption | exact up_s | (rw [up_n (by omega)]; first | assumption | exact up_s | (rw [up_n (by omega)]; first | assumption | exact up_s)))))))))))) (by omega) rfl 4 (by decide) (hq _ q679 rfl) (fun _ h9 => h9) rfl (by decide +kernel) rfl rfl (by first | exact Nat.le_of_ble_eq_true rfl | (simp only [List.length_set]; exact Nat.le_of_ble_eq_true rfl)) dX7_give_101 (fun H locs hW hS => ?_)
        refine lv_iload hx hb dX7_give_104 (hL.at 4 rfl) ?_
        rw [hQ]
        exact vx_ret (k_iret hx hb hr hlocks hW hS (by omega) (by omega) dX7_give_106 (⟨i, hi, hxi, hsh, hst1, rfl, rfl, (up_n (by omega)).trans (up_s), up_s, fun k a b => (up_n b).trans (up_n a)⟩))
    · try dsimp only at c18
      have hrf : ¬ mShut M = 0 ∨ ¬ oState (mod M i) = 3 := Or.inr (fun z => c18 (by rw [z]; rfl))
      rw [hQ]
      exact k_throwW G hx hb hlocks (names := ["java/lang/RuntimeException", "java/lang/Exception"]) hown hts hq hI (by decide) (by decide) (gT_in q449 rfl) (gT_in q65 rfl) 25 rfl (fun w hw => hq w (at_65 w hw).1 (at_65 w hw).2) ot_65 hW hS (hL.1.trans hml.symm) hin dX7_give_21 dX7_give_24 dX7_give_25 dX7_give_28 dX7_give_31 (by decide) (by decide) (by show _ ≤ (2 : Nat); omega) (by show _ ≤ (12 : Nat); omega) (by omega) (by omega) (Or.inr ⟨rfl, i, hi, hxi, hrf⟩)

set_option maxHeartbeats 4000000 in
set_option maxRecDepth 100000 in
/-- TailorBench.otherAt  -/
theorem c_otherAtN {l : Launch} {D : va_G} {cy : Nat → ClassId} {sad : Nat → Nat} {em : Nat} {s0 : State} {a0 : Array Value} (G : kG kSTR l D cy sad em s0 a0) {ad : Nat → Nat} {ct : Nat → Option va_E} {M : tM} (hm : RepC cy ad ct M) (ho : okM M)  :
    KM l yX7_otherAt [.code yX7_otherAt prog_1_method_35_code 2 (some (.object "TailorBench$Order"))] 0 0 0 0 [.ref (ad 1), .int (-1)] D s0 ad ct (fun v ad' ct' => v = some (.null) ∧ ad' = ad ∧ ct' = ct) := by
  refine KM.of G (by decide) (Nat.le_of_ble_eq_true rfl) (Nat.le_of_ble_eq_true rfl) ?_
  intro p e s m args below meth c ls Q hQ X hin hL hW hS
  obtain ⟨hx, hb, hr, hml, hown, hlocks, hts, hq, hK, hI⟩ := X
  refine lv_iload_n hx hb dX7_otherAt_0 rfl (hL.at 1 rfl) ?_
  refine lv_iconst (v := (-1)) hx hb dX7_otherAt_1 (by decide) ?_
  refine lv_icmp_ne (tgt := 9) hx hb dX7_otherAt_2 (by decide) (fun c2 => ?_) (fun c2 => ?_)
  · try dsimp only at c2
    exact absurd rfl c2
  · try dsimp only at c2
    refine lv_null hx hb dX7_otherAt_5 ?_
    refine lv_goto (tgt := 14) hx hb dX7_otherAt_6 (by decide) ?_
    rw [hQ]
    exact k_aret hx hb hr (Or.inl ⟨_, rfl⟩) hlocks (Or.inl rfl) hW hS (by omega) (by omega) dX7_otherAt_14 (⟨rfl, rfl, rfl⟩)
