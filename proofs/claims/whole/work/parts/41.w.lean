/-! cut -/
theorem fC1_pr {M : tM} {jc : Nat} {nd : UInt64} : (mcl (fC1 M jc nd) jc).2.2.2.2.2 = (mcl M jc).2.2.2.2.2 := by
  show (vf_upd (mcl M) jc (fCutC M jc nd) jc).2.2.2.2.2 = _
  rw [vu_s]
theorem cut_clk {ad : Nat → Nat} {e : Option va_E} {M : tM} {i jc : Nat} {nd nk x : UInt64} {o : Option Nat} (h : e = some (oShop ad (sSh (fC3 M i jc nd nk o) (fSpend (mClk (fC3 M i jc nd nk o)) x, (fC3 M i jc nd nk o).2.1.2)))) : e = some (oShop ad (sSh (fC3 M i jc nd nk o) (fSpend (mClk M) x, M.2.1.2))) := by
  cases o <;> exact h
theorem cut_clk2 {M : tM} {i jc : Nat} {nd nk x : UInt64} {o : Option Nat} (h : vf_n64 (FP.dadd (mClk M) x)) : vf_n64 (FP.dadd (mClk (fC3 M i jc nd nk o)) x) := by
  cases o <;> exact h
theorem fC4_cl {M : tM} {i jc : Nat} {nd nk : UInt64} {o : Option Nat} : mcl (fC4 M i jc nd nk o) jc = fCutC M jc nd ∧ mC (fC4 M i jc nd nk o) = mC M := by
  have e : vf_upd (mcl M) jc (fCutC M jc nd) jc = fCutC M jc nd := vu_s
  cases o <;> exact ⟨e, rfl⟩

set_option maxHeartbeats 16000000 in
set_option maxRecDepth 100000 in
/-- TailorBench.cut  -/
theorem c_cut {l : Launch} {D : va_G} {cy : Nat → ClassId} {sad : Nat → Nat} {em : Nat} {s0 : State} {a0 : Array Value} (G : kG kSTR l D cy sad em s0 a0) {ad : Nat → Nat} {ct : Nat → Option va_E} {M : tM} (hm : RepC cy ad ct M) (ho : okM M) (x xo xc : Int32) {tb : tTb} {fl fw fh fr : Nat → UInt64} (hT : RepT cy ad ct tb fl fw fh fr) {nb : Nat} (hN : okN nb M) :
    KX l yX7_cut [.code yX7_cut prog_1_method_10_code 10 (some .double)] 8 150 5 30 [.ref (ad 1), .int x, .int xo, .int xc] D s0 ad ct (fun v ad' ct' => ∃ (i : Nat) (o : Option Nat) (jc : Nat), i < mO M ∧ x = nI i ∧ kOth xo (mO M) o ∧ jc < mC M ∧ xc = nI jc ∧ ¬ x = xo ∧ mShut M = 0 ∧ oState (mod M i) = 0 ∧ (∀ i2, o = some i2 → oState (mod M i2) = 0) ∧ ad' = ad ∧ ((fSpo M i o jc = none ∧ v = some (.double 13835058055282163712) ∧ kOut ct ct') ∨ ∃ r, fSpo M i o jc = some r ∧ ((FP.dcmp (mcl M jc).2.1 r.2.2.2 = some .lt ∧ v = some (.double 13837309855095848960) ∧ kOut ct ct') ∨ (¬ FP.dcmp (mcl M jc).2.1 r.2.2.2 = some .lt ∧ v = some (.double (FP.dsub (mcl M jc).2.1 r.2.2.2)) ∧ RepC cy ad ct' (fC4 M i jc r.2.2.2 (fNdK o r.2.2.2) o) ∧ ∀ k, k ≠ 1 → (k < 7 ∨ 11 < k) → k ≠ 16 + jc → k ≠ 64 + i → k ≠ 72 + i → (∀ i2, o = some i2 → k ≠ 64 + i2 ∧ k ≠ 72 + i2) → ct' k = ct k))) ∧ ∃ (tb : tTb) (fl fw fh fr : Nat → UInt64), RepT cy ad ct' tb fl fw fh fr) (fun E => (E = eIdx ∧ (¬ kIn x (mO M) ∨ (¬ xo = -1 ∧ ¬ kIn xo (mO M)) ∨ ¬ kIn xc (mC M))) ∨ (E = eArg ∧ kIn x (mO M) ∧ (xo = -1 ∨ kIn xo (mO M)) ∧ kIn xc (mC M) ∧ x = xo) ∨ (E = eSta ∧ ∃ i o, i < mO M ∧ x = nI i ∧ kOth xo (mO M) o ∧ kIn xc (mC M) ∧ ¬ x = xo ∧ (¬ mShut M = 0 ∨ ¬ oState (mod M i) = 0 ∨ ∃ i2, o = some i2 ∧ ¬ oState (mod M i2) = 0))) := by
  refine KX.of G (by decide) (Nat.le_of_ble_eq_true rfl) (Nat.le_of_ble_eq_true rfl) ?_
  intro p e s m args below meth c ls Q hQ X hin hL hW hS
  obtain ⟨hx, hb, hr, hml, hown, hlocks, hts, hq, hK, hI⟩ := X
  have hbn := ho.1
  have hs1 := hm.1
  have hts1 := hT.1
  replace hL := hL.nrm (l' := [some _, some _, some _, some _, none, none, none, none, none, none]) rfl
  refine lv_aload_n hx hb dX7_cut_0 rfl (hL.at 0 rfl) ?_
  refine lv_iload_n hx hb dX7_cut_1 rfl (hL.at 1 rfl) ?_
  refine k_callVX (q := (RX7, TX7, 15)) hx hb hml hown hts hK hI hS hW hL.1 (by first | with_reducible assumption | with_reducible exact up_s | (rw [up_n (by omega)]; first | with_reducible assumption | with_reducible exact up_s | (rw [up_n (by omega)]; first | with_reducible assumption | with_reducible exact up_s | (rw [up_n (by omega)]; first | with_reducible assumption | with_reducible exact up_s | (rw [up_n (by omega)]; first | with_reducible assumption | with_reducible exact up_s | (rw [up_n (by omega)]; first | with_reducible assumption | with_reducible exact up_s | (rw [up_n (by omega)]; first | with_reducible assumption | with_reducible exact up_s | (rw [up_n (by omega)]; first | with_reducible assumption | with_reducible exact up_s | (rw [up_n (by omega)]; first | with_reducible assumption | with_reducible exact up_s | (rw [up_n (by omega)]; first | with_reducible assumption | with_reducible exact up_s | (rw [up_n (by omega)]; first | with_reducible assumption | with_reducible exact up_s | (rw [up_n (by omega)]; first | with_reducible assumption | with_reducible exact up_s)))))))))))) rfl (c_orderAt G hm ho x) (m5 (gT_in q325 rfl) (gT_in q327 rfl) (gT_in q3 rfl) (gT_in q55 rfl) (gT_in q328 rfl)) rfl (show kpar yX7_orderAt 1 from ⟨by decide, by decide, by decide +kernel⟩) ⟨by decide, by decide⟩ (by show _ ≤ (5 : Nat); omega) (by show _ ≤ (30 : Nat); omega) rfl (by first | decide | exact Nat.le_of_ble_eq_true rfl) dX7_cut_2 (fun E ce q9 H locs hp hW hS hce hcv hcl => ?_) (fun v ad2 ct2 H locs hp hW hS => ?_)
  · rw [hQ]; exact k_out hown hlocks hin hW hS hce hcv hcl (by omega) (by omega) (Or.inl ⟨hp.1, Or.inl hp.2⟩)
  obtain ⟨i, hi, hxi, rfl, h1, h2⟩ := hp
  rw [h1, h2] at hW
  refine k_ast hx hb hL (i := 4) (by decide) dX7_cut_5 (fun ls hL => ?_)
  replace hL := hL.nrm (l' := [some _, some _, some _, some _, some _, none, none, none, none, none]) rfl
  have oo := (hm.ord ho hi).1
  have ost := (ho.2.2.2.2.2 i hi).2.2.2
  refine lv_aload_n hx hb dX7_cut_7 rfl (hL.at 0 rfl) ?_
  refine lv_iload_n hx hb dX7_cut_8 rfl (hL.at 2 rfl) ?_
  refine k_callVX (q := (RX7, TX7, 15)) hx hb hml hown hts hK hI hS hW hL.1 (by first | with_reducible assumption | with_reducible exact up_s | (rw [up_n (by omega)]; first | with_reducible assumption | with_reducible exact up_s | (rw [up_n (by omega)]; first | with_reducible assumption | with_reducible exact up_s | (rw [up_n (by omega)]; first | with_reducible assumption | with_reducible exact up_s | (rw [up_n (by omega)]; first | with_reducible assumption | with_reducible exact up_s | (rw [up_n (by omega)]; first | with_reducible assumption | with_reducible exact up_s | (rw [up_n (by omega)]; first | with_reducible assumption | with_reducible exact up_s | (rw [up_n (by omega)]; first | with_reducible assumption | with_reducible exact up_s | (rw [up_n (by omega)]; first | with_reducible assumption | with_reducible exact up_s | (rw [up_n (by omega)]; first | with_reducible assumption | with_reducible exact up_s | (rw [up_n (by omega)]; first | with_reducible assumption | with_reducible exact up_s | (rw [up_n (by omega)]; first | with_reducible assumption | with_reducible exact up_s)))))))))))) rfl (c_otherAt G hm ho xo) (m5 (gT_in q417 rfl) (gT_in q419 rfl) (gT_in q17 rfl) (gT_in q55 rfl) (gT_in q420 rfl)) rfl (show kpar yX7_otherAt 1 from ⟨by decide, by decide, by decide +kernel⟩) ⟨by decide, by decide⟩ (by show _ ≤ (5 : Nat); omega) (by show _ ≤ (30 : Nat); omega) rfl (by first | decide | exact Nat.le_of_ble_eq_true rfl) dX7_cut_9 (fun E ce q9 H locs hp hW hS hce hcv hcl => ?_) (fun v ad9 ct9 H locs hp hW hS => ?_)
  · rw [hQ]; exact k_out hown hlocks hin hW hS hce hcv hcl (by omega) (by omega) (Or.inl ⟨hp.1, Or.inr (Or.inl ⟨hp.2.1, hp.2.2⟩)⟩)
  obtain ⟨ho9, h1, h2⟩ := hp
  rw [h1, h2] at hW
  rcases ho9 with ⟨hxo, rfl⟩ | ⟨i2, hi2, hxo, rfl⟩
  · obtain ⟨o, hoth, hoo, hspo, hlo⟩ : ∃ o, kOth xo (mO M) o ∧ (∀ i2, o = some i2 → i2 < mO M) ∧ (∀ jc, fSpo M i o jc = fSp1 M i jc) ∧ (∀ jc nd nk, fC3 M i jc nd nk o = fC2 M i jc nd nk) ∧ fLaid M i o = mCnt M i ∧ (∀ nd, fNdK o nd = nd) ∧ o = none := ⟨none, Or.inl ⟨hxo, rfl⟩, (fun _ z => by cases z), fun _ => rfl, ⟨fun _ _ _ => rfl, rfl, fun _ => rfl, rfl⟩⟩
    refine k_astN hx hb hL (i := 5) (by decide) dX7_cut_12 (fun ls hL => ?_)
    replace hL := hL.nrm (l' := [some _, some _, some _, some _, some _, some _, none, none, none, none]) rfl
    refine lv_aload_n hx hb dX7_cut_14 rfl (hL.at 0 rfl) ?_
    refine lv_iload_n hx hb dX7_cut_15 rfl (hL.at 3 rfl) ?_
    refine k_callVX (q := (RX7, TX7, 15)) hx hb hml hown hts hK hI hS hW hL.1 (by first | with_reducible assumption | with_reducible exact up_s | (rw [up_n (by omega)]; first | with_reducible assumption | with_reducible exact up_s | (rw [up_n (by omega)]; first | with_reducible assumption | with_reducible exact up_s | (rw [up_n (by omega)]; first | with_reducible assumption | with_reducible exact up_s | (rw [up_n (by omega)]; first | with_reducible assumption | with_reducible exact up_s | (rw [up_n (by omega)]; first | with_reducible assumption | with_reducible exact up_s | (rw [up_n (by omega)]; first | with_reducible assumption | with_reducible exact up_s | (rw [up_n (by omega)]; first | with_reducible assumption | with_reducible exact up_s | (rw [up_n (by omega)]; first | with_reducible assumption | with_reducible exact up_s | (rw [up_n (by omega)]; first | with_reducible assumption | with_reducible exact up_s | (rw [up_n (by omega)]; first | with_reducible assumption | with_reducible exact up_s | (rw [up_n (by omega)]; first | with_reducible assumption | with_reducible exact up_s)))))))))))) rfl (c_clothAt G hm ho xc) (m5 (gT_in q296 rfl) (gT_in q298 rfl) (gT_in q2 rfl) (gT_in q55 rfl) (gT_in q299 rfl)) rfl (show kpar yX7_clothAt 1 from ⟨by decide, by decide, by decide +kernel⟩) ⟨by decide, by decide⟩ (by show _ ≤ (5 : Nat); omega) (by show _ ≤ (30 : Nat); omega) rfl (by first | decide | exact Nat.le_of_ble_eq_true rfl) dX7_cut_16 (fun E ce q9 H locs hp hW hS hce hcv hcl => ?_) (fun v ad16 ct16 H locs hp hW hS => ?_)
    · rw [hQ]; exact k_out hown hlocks hin hW hS hce hcv hcl (by omega) (by omega) (Or.inl ⟨hp.1, Or.inr (Or.inr hp.2)⟩)
    obtain ⟨jc, hc, hxjc, rfl, h1, h2⟩ := hp
    rw [h1, h2] at hW
    refine k_ast hx hb hL (i := 6) (by decide) dX7_cut_19 (fun ls hL => ?_)
    replace hL := hL.nrm (l' := [some _, some _, some _, some _, some _, some _, some _, none, none, none]) rfl
    subst hxjc
    have hC := hm.2.2.1 jc hc
    refine lv_iload_n hx hb dX7_cut_21 rfl (hL.at 1 rfl) ?_
    refine lv_iload_n hx hb dX7_cut_22 rfl (hL.at 2 rfl) ?_
    refine lv_icmp_ne (tgt := 36) hx hb dX7_cut_23 (by decide) (fun c23 => ?_) (fun c23 => ?_)
    · try dsimp only at c23
      
      refine lv_aload_n hx hb dX7_cut_36 rfl (hL.at 0 rfl) ?_
      refine k_get (ci := 9) (C := RX7) (T := TX7) (N := 15) hx hb hts w_RX7 hown hK hW (by first | with_reducible assumption | with_reducible exact up_s | (rw [up_n (by omega)]; first | with_reducible assumption | with_reducible exact up_s | (rw [up_n (by omega)]; first | with_reducible assumption | with_reducible exact up_s | (rw [up_n (by omega)]; first | with_reducible assumption | with_reducible exact up_s | (rw [up_n (by omega)]; first | with_reducible assumption | with_reducible exact up_s | (rw [up_n (by omega)]; first | with_reducible assumption | with_reducible exact up_s | (rw [up_n (by omega)]; first | with_reducible assumption | with_reducible exact up_s | (rw [up_n (by omega)]; first | with_reducible assumption | with_reducible exact up_s | (rw [up_n (by omega)]; first | with_reducible assumption | with_reducible exact up_s | (rw [up_n (by omega)]; first | with_reducible assumption | with_reducible exact up_s | (rw [up_n (by omega)]; first | with_reducible assumption | with_reducible exact up_s | (rw [up_n (by omega)]; first | with_reducible assumption | with_reducible exact up_s)))))))))))) rfl 14 (by decide) (hq _ q163 rfl) (fun _ h9 => h9) (by rfl) dX7_cut_37 ?_
      refine lv_if_ne (tgt := 64) hx hb dX7_cut_40 (by decide) (fun c40 => ?_) (fun c40 => ?_)
      · try simp only [b2_eq, Decidable.not_not] at c40
        try dsimp only at c40
        have hrf : ¬ mShut M = 0 ∨ ¬ oState (mod M i) = 0 ∨ ∃ i2, o = some i2 ∧ ¬ oState (mod M i2) = 0 := Or.inl (by first | exact c40 | exact Decidable.not_not.mp c40)
        rw [hQ]
        exact k_throw G hx hb hlocks (names := ["java/lang/RuntimeException", "java/lang/Exception"]) hown hts hq hI (by decide) (by decide) (gT_in q449 rfl) (gT_in q65 rfl) 22 rfl (fun w hw => hq w (at_65 w hw).1 (at_65 w hw).2) ot_65 hW hS (hL.1.trans hml.symm) hin dX7_cut_64 dX7_cut_67 dX7_cut_68 dX7_cut_70 dX7_cut_73 (by decide) (by decide) (by show _ ≤ (5 : Nat); omega) (by show _ ≤ (30 : Nat); omega) (by omega) (by omega) (by first | exact Or.inr (Or.inl ⟨rfl, ⟨i, hi, hxi⟩, (hoth.elim (fun z => Or.inl z.1) (fun ⟨i9, a9, b9, _⟩ => Or.inr ⟨i9, a9, b9⟩)), ⟨jc, hc, rfl⟩, hbad⟩) | exact Or.inr (Or.inr ⟨rfl, i, o, hi, hxi, hoth, ⟨jc, hc, rfl⟩, c23, hrf⟩))
      · try simp only [b2_eq, Decidable.not_not] at c40
        try dsimp only at c40
        have hsh : mShut M = 0 := by first | exact c40 | exact Decidable.not_not.mp c40
        refine lv_aload hx hb dX7_cut_43 (hL.at 4 rfl) ?_
        refine k_getN (ci := 4) (C := RX2) (T := TX2) (N := 10) hx hb hts w_RX2 hown hK hW (by first | with_reducible assumption | with_reducible exact up_s | (rw [up_n (by omega)]; first | with_reducible assumption | with_reducible exact up_s | (rw [up_n (by omega)]; first | with_reducible assumption | with_reducible exact up_s | (rw [up_n (by omega)]; first | with_reducible assumption | with_reducible exact up_s | (rw [up_n (by omega)]; first | with_reducible assumption | with_reducible exact up_s | (rw [up_n (by omega)]; first | with_reducible assumption | with_reducible exact up_s | (rw [up_n (by omega)]; first | with_reducible assumption | with_reducible exact up_s | (rw [up_n (by omega)]; first | with_reducible assumption | with_reducible exact up_s | (rw [up_n (by omega)]; first | with_reducible assumption | with_reducible exact up_s | (rw [up_n (by omega)]; first | with_reducible assumption | with_reducible exact up_s | (rw [up_n (by omega)]; first | with_reducible assumption | with_reducible exact up_s | (rw [up_n (by omega)]; first | with_reducible assumption | with_reducible exact up_s)))))))))))) rfl 4 (by decide) (hq _ q679 rfl) (fun _ h9 => h9) (by rfl) dX7_cut_45 ?_
        refine lv_if_ne (tgt := 64) hx hb dX7_cut_48 (by decide) (fun c48 => ?_) (fun c48 => ?_)
        · try simp only [b2_eq, Decidable.not_not] at c48
          try dsimp only at c48
          have hrf : ¬ mShut M = 0 ∨ ¬ oState (mod M i) = 0 ∨ ∃ i2, o = some i2 ∧ ¬ oState (mod M i2) = 0 := Or.inr (Or.inl (fun z => c48 (by rw [z]; rfl)))
          rw [hQ]
          exact k_throw G hx hb hlocks (names := ["java/lang/RuntimeException", "java/lang/Exception"]) hown hts hq hI (by decide) (by decide) (gT_in q449 rfl) (gT_in q65 rfl) 22 rfl (fun w hw => hq w (at_65 w hw).1 (at_65 w hw).2) ot_65 hW hS (hL.1.trans hml.symm) hin dX7_cut_64 dX7_cut_67 dX7_cut_68 dX7_cut_70 dX7_cut_73 (by decide) (by decide) (by show _ ≤ (5 : Nat); omega) (by show _ ≤ (30 : Nat); omega) (by omega) (by omega) (by first | exact Or.inr (Or.inl ⟨rfl, ⟨i, hi, hxi⟩, (hoth.elim (fun z => Or.inl z.1) (fun ⟨i9, a9, b9, _⟩ => Or.inr ⟨i9, a9, b9⟩)), ⟨jc, hc, rfl⟩, hbad⟩) | exact Or.inr (Or.inr ⟨rfl, i, o, hi, hxi, hoth, ⟨jc, hc, rfl⟩, c23, hrf⟩))
        · try simp only [b2_eq, Decidable.not_not] at c48
          try dsimp only at c48
          have hst0 : oState (mod M i) = 0 := by
            rcases Nat.eq_zero_or_pos (oState (mod M i)) with q9 | q9
            · exact q9
            · exact absurd (by first | exact c48 | exact Decidable.not_not.mp c48) (nI_ne0 q9 (by omega))
          refine lv_aloadN hx hb dX7_cut_51 (hL.at 5 rfl) ?_
          refine lv_ifnullN (tgt := 74) hx hb dX7_cut_53 (by decide) ?_
          have hst3 : ∀ i9, o = some i9 → oState (mod M i9) = 0 := by first | exact hst3 | exact fun i9 z => absurd (hlo.2.2.2.symm.trans z) (by intro q9; cases q9)
          refine lv_aload_n hx hb dX7_cut_74 rfl (hL.at 0 rfl) ?_
          refine k_get (ci := 9) (C := RX7) (T := TX7) (N := 15) hx hb hts w_RX7 hown hK hW (by first | with_reducible assumption | with_reducible exact up_s | (rw [up_n (by omega)]; first | with_reducible assumption | with_reducible exact up_s | (rw [up_n (by omega)]; first | with_reducible assumption | with_reducible exact up_s | (rw [up_n (by omega)]; first | with_reducible assumption | with_reducible exact up_s | (rw [up_n (by omega)]; first | with_reducible assumption | with_reducible exact up_s | (rw [up_n (by omega)]; first | with_reducible assumption | with_reducible exact up_s | (rw [up_n (by omega)]; first | with_reducible assumption | with_reducible exact up_s | (rw [up_n (by omega)]; first | with_reducible assumption | with_reducible exact up_s | (rw [up_n (by omega)]; first | with_reducible assumption | with_reducible exact up_s | (rw [up_n (by omega)]; first | with_reducible assumption | with_reducible exact up_s | (rw [up_n (by omega)]; first | with_reducible assumption | with_reducible exact up_s | (rw [up_n (by omega)]; first | with_reducible assumption | with_reducible exact up_s)))))))))))) rfl 5 (by decide) (hq _ q154 rfl) (fun _ h9 => h9) (by rfl) dX7_cut_75 ?_
          refine lv_aload hx hb dX7_cut_78 (hL.at 4 rfl) ?_
          refine lv_aloadN hx hb dX7_cut_80 (hL.at 5 rfl) ?_
          refine lv_aload hx hb dX7_cut_82 (hL.at 6 rfl) ?_
          refine k_callVN (q := (RX6, TX6, 11)) (host := "TailorBench") hx hb hml hown hts hK hI hS hW hL.1 (by first | with_reducible assumption | with_reducible exact up_s | (rw [up_n (by omega)]; first | with_reducible assumption | with_reducible exact up_s | (rw [up_n (by omega)]; first | with_reducible assumption | with_reducible exact up_s | (rw [up_n (by omega)]; first | with_reducible assumption | with_reducible exact up_s | (rw [up_n (by omega)]; first | with_reducible assumption | with_reducible exact up_s | (rw [up_n (by omega)]; first | with_reducible assumption | with_reducible exact up_s | (rw [up_n (by omega)]; first | with_reducible assumption | with_reducible exact up_s | (rw [up_n (by omega)]; first | with_reducible assumption | with_reducible exact up_s | (rw [up_n (by omega)]; first | with_reducible assumption | with_reducible exact up_s | (rw [up_n (by omega)]; first | with_reducible assumption | with_reducible exact up_s | (rw [up_n (by omega)]; first | with_reducible assumption | with_reducible exact up_s | (rw [up_n (by omega)]; first | with_reducible assumption | with_reducible exact up_s)))))))))))) rfl (c_spread1 G hm ho hi hc hT hN) (gT_in q365 rfl) (hq _ q362 rfl) (hq _ q56 rfl) (hq _ q364 rfl) (hq _ q7 rfl) (show kpar yX6_spread 3 from ⟨by decide, by decide, by decide +kernel⟩) ⟨by decide, by decide⟩ (by show _ ≤ (5 : Nat); omega) (by show _ ≤ (30 : Nat); omega) rfl (by first | decide | exact Nat.le_of_ble_eq_true rfl) dX7_cut_84 (fun v ad84 ct84 H locs hp hW hS => ?_)
          obtain ⟨h1, hk84, ha84⟩ := hp
          rw [h1] at hW
          rw [← hspo jc] at ha84
          have hm84 := hm.out ho hk84
          have hs84 := hm84.1
          have hC84 := hm84.2.2.1 jc hc
          rcases ha84 with ⟨r84, fl84, fw84, fh84, fr84, e84, rfl, hT84⟩ | ⟨e84, rfl, tb84, fl84, fw84, fh84, fr84, hT84⟩
          · obtain ⟨t7, t8, t9, t10, t11⟩ := id hT84
            refine lv_if_ne (tgt := 94) hx hb dX7_cut_87 (by decide) (fun c87 => ?_) (fun c87 => ?_)
            · try dsimp only at c87
              refine lv_aload_n hx hb dX7_cut_94 rfl (hL.at 0 rfl) ?_
              refine k_get (ci := 9) (C := RX7) (T := TX7) (N := 15) hx hb hts w_RX7 hown hK hW (by first | with_reducible assumption | with_reducible exact up_s | (rw [up_n (by omega)]; first | with_reducible assumption | with_reducible exact up_s | (rw [up_n (by omega)]; first | with_reducible assumption | with_reducible exact up_s | (rw [up_n (by omega)]; first | with_reducible assumption | with_reducible exact up_s | (rw [up_n (by omega)]; first | with_reducible assumption | with_reducible exact up_s | (rw [up_n (by omega)]; first | with_reducible assumption | with_reducible exact up_s | (rw [up_n (by omega)]; first | with_reducible assumption | with_reducible exact up_s | (rw [up_n (by omega)]; first | with_reducible assumption | with_reducible exact up_s | (rw [up_n (by omega)]; first | with_reducible assumption | with_reducible exact up_s | (rw [up_n (by omega)]; first | with_reducible assumption | with_reducible exact up_s | (rw [up_n (by omega)]; first | with_reducible assumption | with_reducible exact up_s | (rw [up_n (by omega)]; first | with_reducible assumption | with_reducible exact up_s)))))))))))) rfl 5 (by decide) (hq _ q154 rfl) (fun _ h9 => h9) (by rfl) dX7_cut_95 ?_
              refine k_getN (ci := 8) (C := RX6) (T := TX6) (N := 11) hx hb hts w_RX6 hown hK hW (by first | with_reducible assumption | with_reducible exact up_s | (rw [up_n (by omega)]; first | with_reducible assumption | with_reducible exact up_s | (rw [up_n (by omega)]; first | with_reducible assumption | with_reducible exact up_s | (rw [up_n (by omega)]; first | with_reducible assumption | with_reducible exact up_s | (rw [up_n (by omega)]; first | with_reducible assumption | with_reducible exact up_s | (rw [up_n (by omega)]; first | with_reducible assumption | with_reducible exact up_s | (rw [up_n (by omega)]; first | with_reducible assumption | with_reducible exact up_s | (rw [up_n (by omega)]; first | with_reducible assumption | with_reducible exact up_s | (rw [up_n (by omega)]; first | with_reducible assumption | with_reducible exact up_s | (rw [up_n (by omega)]; first | with_reducible assumption | with_reducible exact up_s | (rw [up_n (by omega)]; first | with_reducible assumption | with_reducible exact up_s | (rw [up_n (by omega)]; first | with_reducible assumption | with_reducible exact up_s)))))))))))) rfl 7 (by decide) (hq _ q121 rfl) (fun _ h9 => h9) (by rfl) dX7_cut_98 ?_
              refine lv_topd (fun y hy => ?_)
              have hy2 : y = r84.2.2.2 := hy
              subst hy2
              refine k_dst hx hb hL (i := 7) (by decide) dX7_cut_101 (fun ls hL => ?_)
              replace hL := hL.nrm (l' := [some _, some _, some _, some _, some _, some _, some _, some _, none, none]) rfl
              refine lv_aload hx hb dX7_cut_103 (hL.at 6 rfl) ?_
              refine k_getN (ci := 2) (C := RX0) (T := TX0) (N := 6) hx hb hts w_RX0 hown hK hW (by first | with_reducible assumption | with_reducible exact up_s | (rw [up_n (by omega)]; first | with_reducible assumption | with_reducible exact up_s | (rw [up_n (by omega)]; first | with_reducible assumption | with_reducible exact up_s | (rw [up_n (by omega)]; first | with_reducible assumption | with_reducible exact up_s | (rw [up_n (by omega)]; first | with_reducible assumption | with_reducible exact up_s | (rw [up_n (by omega)]; first | with_reducible assumption | with_reducible exact up_s | (rw [up_n (by omega)]; first | with_reducible assumption | with_reducible exact up_s | (rw [up_n (by omega)]; first | with_reducible assumption | with_reducible exact up_s | (rw [up_n (by omega)]; first | with_reducible assumption | with_reducible exact up_s | (rw [up_n (by omega)]; first | with_reducible assumption | with_reducible exact up_s | (rw [up_n (by omega)]; first | with_reducible assumption | with_reducible exact up_s | (rw [up_n (by omega)]; first | with_reducible assumption | with_reducible exact up_s)))))))))))) rfl 4 (by decide) (hq _ q482 rfl) (fun _ h9 => h9) (by rfl) dX7_cut_105 ?_
              refine lv_dload hx hb dX7_cut_108 (hL.at 7 rfl) ?_
              refine lv_dcmp hx hb dX7_cut_110 ?_
              refine lv_if_ge (tgt := 118) hx hb dX7_cut_111 (by decide) (fun c111 => ?_) (fun c111 => ?_)
              · rw [cg_ge] at c111
                refine lv_aload hx hb dX7_cut_118 (hL.at 6 rfl) ?_
                refine lv_aload hx hb dX7_cut_120 (hL.at 6 rfl) ?_
                refine k_getN (ci := 2) (C := RX0) (T := TX0) (N := 6) hx hb hts w_RX0 hown hK hW (by first | with_reducible assumption | with_reducible exact up_s | (rw [up_n (by omega)]; first | with_reducible assumption | with_reducible exact up_s | (rw [up_n (by omega)]; first | with_reducible assumption | with_reducible exact up_s | (rw [up_n (by omega)]; first | with_reducible assumption | with_reducible exact up_s | (rw [up_n (by omega)]; first | with_reducible assumption | with_reducible exact up_s | (rw [up_n (by omega)]; first | with_reducible assumption | with_reducible exact up_s | (rw [up_n (by omega)]; first | with_reducible assumption | with_reducible exact up_s | (rw [up_n (by omega)]; first | with_reducible assumption | with_reducible exact up_s | (rw [up_n (by omega)]; first | with_reducible assumption | with_reducible exact up_s | (rw [up_n (by omega)]; first | with_reducible assumption | with_reducible exact up_s | (rw [up_n (by omega)]; first | with_reducible assumption | with_reducible exact up_s | (rw [up_n (by omega)]; first | with_reducible assumption | with_reducible exact up_s)))))))))))) rfl 4 (by decide) (hq _ q482 rfl) (fun _ h9 => h9) (by rfl) dX7_cut_122 ?_
                refine lv_dload hx hb dX7_cut_125 (hL.at 7 rfl) ?_
                refine lv_dsub hx hb dX7_cut_127 (vf_sub (hN.1 jc hc).2.1.fin (fSpo_ok ho hN hi hc hoo e84).1.fin) ?_
                refine k_putN (ci := 2) (C := RX0) (T := TX0) (N := 6) (ty := tyX0 4) hx hb hts w_RX0 tyX0 tyX0_ok nmX0 hown hK hW hS (by first | with_reducible assumption | with_reducible exact up_s | (rw [up_n (by omega)]; first | with_reducible assumption | with_reducible exact up_s | (rw [up_n (by omega)]; first | with_reducible assumption | with_reducible exact up_s | (rw [up_n (by omega)]; first | with_reducible assumption | with_reducible exact up_s | (rw [up_n (by omega)]; first | with_reducible assumption | with_reducible exact up_s | (rw [up_n (by omega)]; first | with_reducible assumption | with_reducible exact up_s | (rw [up_n (by omega)]; first | with_reducible assumption | with_reducible exact up_s | (rw [up_n (by omega)]; first | with_reducible assumption | with_reducible exact up_s | (rw [up_n (by omega)]; first | with_reducible assumption | with_reducible exact up_s | (rw [up_n (by omega)]; first | with_reducible assumption | with_reducible exact up_s | (rw [up_n (by omega)]; first | with_reducible assumption | with_reducible exact up_s | (rw [up_n (by omega)]; first | with_reducible assumption | with_reducible exact up_s)))))))))))) (by omega) rfl 4 (by decide) (hq _ q482 rfl) (fun _ h9 => h9) rfl (by decide +kernel) rfl rfl (by first | exact Nat.le_of_ble_eq_true rfl | (simp only [List.length_set]; exact Nat.le_of_ble_eq_true rfl)) dX7_cut_128 (fun H locs hW hS => ?_)
                obtain ⟨a572, hnk0, hnk1, hcst⟩ := fSpo_ok ho hN hi hc hoo e84
                have hnk := hlo.2.2.1 r84.2.2.2
                obtain ⟨nk, hnkd⟩ : ∃ z, z = fNdK o r84.2.2.2 := ⟨_, rfl⟩
                rw [← hnkd] at hnk0 hcst hnk
                have hmA : RepC cy ad (up ct84 (16 + jc) (oCl (fCutC M jc r84.2.2.2))) (fC1 M jc r84.2.2.2) := RepC_sCl hm84 ho hc _ up_s (fun j hj => up_n hj)
                have hoA := okM_fC1 ho hc r84.2.2.2
                have hTA := hT84.kp (ct' := up ct84 (16 + jc) (oCl (fCutC M jc r84.2.2.2))) (fun k a b => up_n (by omega))
                have hrA : ∀ k, (k < 7 ∨ 11 < k) → k ≠ 16 + jc → (up ct84 (16 + jc) (oCl (fCutC M jc r84.2.2.2))) k = ct k := fun k a b => (up_n b).trans (hk84 k a)
                have ooA := (hmA.ord hoA hi).1
                have hsA := hmA.1
                refine lv_aloadN hx hb dX7_cut_131 (hL.at 5 rfl) ?_
                refine lv_ifnonnullN hx hb dX7_cut_133 ?_
                refine lv_aload hx hb dX7_cut_136 (hL.at 4 rfl) ?_
                refine lv_iload_n hx hb dX7_cut_138 rfl (hL.at 3 rfl) ?_
                refine lv_aload hx hb dX7_cut_139 (hL.at 6 rfl) ?_
                refine lv_dload hx hb dX7_cut_141 (hL.at 7 rfl) ?_
                refine lv_topd (fun y hy => ?_)
                have hy2 : y = nk := hy.trans hnk.symm
                rw [hy2]
                clear hy2 hy
                refine k_callS hx hb hml hown hts hI hS hW hL.1 (c_costOf G hmA hoA hc nk (by rw [fC1_pr]; exact hcst)) (m4 (gT_in q722 rfl) (gT_in q723 rfl) (gT_in q55 rfl) (gT_in q724 rfl)) (show kpar yX7_costOf 2 from ⟨by decide, by decide, by decide +kernel⟩) ⟨by decide, by decide⟩ (by show _ ≤ (5 : Nat); omega) (by show _ ≤ (30 : Nat); omega) rfl (by first | decide | exact Nat.le_of_ble_eq_true rfl) dX7_cut_143 (fun v ad143 ct143 H locs hp hW hS => ?_)
                obtain ⟨rfl, h1, h2⟩ := hp
                rw [h1, h2] at hW
                rw [fC1_pr]
                refine k_callVN (q := (RX2, TX2, 10)) (host := "TailorBench") hx hb hml hown hts hK hI hS hW hL.1 (by first | with_reducible assumption | with_reducible exact up_s | (rw [up_n (by omega)]; first | with_reducible assumption | with_reducible exact up_s | (rw [up_n (by omega)]; first | with_reducible assumption | with_reducible exact up_s | (rw [up_n (by omega)]; first | with_reducible assumption | with_reducible exact up_s | (rw [up_n (by omega)]; first | with_reducible assumption | with_reducible exact up_s | (rw [up_n (by omega)]; first | with_reducible assumption | with_reducible exact up_s | (rw [up_n (by omega)]; first | with_reducible assumption | with_reducible exact up_s | (rw [up_n (by omega)]; first | with_reducible assumption | with_reducible exact up_s | (rw [up_n (by omega)]; first | with_reducible assumption | with_reducible exact up_s | (rw [up_n (by omega)]; first | with_reducible assumption | with_reducible exact up_s | (rw [up_n (by omega)]; first | with_reducible assumption | with_reducible exact up_s | (rw [up_n (by omega)]; first | with_reducible assumption | with_reducible exact up_s)))))))))))) rfl (c_keepCut G hmA hoA hi (nI jc) _) (gT_in q730 rfl) (hq _ q727 rfl) (hq _ q80 rfl) (hq _ q729 rfl) (hq _ q23 rfl) (show kpar yX2_keepCut 2 from ⟨by decide, by decide, by decide +kernel⟩) ⟨by decide, by decide⟩ (by show _ ≤ (5 : Nat); omega) (by show _ ≤ (30 : Nat); omega) rfl (Nat.le_of_ble_eq_true rfl) dX7_cut_146 (fun v ad146 ct146 H locs hp hW hS => ?_)
                obtain ⟨rfl, h1, hv1, hr1⟩ := hp
                rw [h1] at hW
                have hmB : RepC cy ad ct146 (fC2 M i jc r84.2.2.2 nk) := RepC_sOr hmA hoA hi _ (hv1 _).1 (hv1 _).2 hr1
                have hoB := okM_fC2 ho hi hc r84.2.2.2 nk
                have hTB := hTA.kp (fun k a b => hr1 k (by omega) (by omega))
                have hE : ∀ k, k ≠ 1 → (k < 7 ∨ 11 < k) → k ≠ 16 + jc → k ≠ 64 + i → k ≠ 72 + i → (∀ i2, o = some i2 → k ≠ 64 + i2 ∧ k ≠ 72 + i2) → ct146 k = ct k := fun k a b c9 d9 e9 _ => (hr1 k d9 e9).trans (hrA k b c9)
                rw [← hlo.1] at hmB hoB
                refine lv_goto (tgt := 181) hx hb dX7_cut_149 (by decide) ?_
                obtain ⟨hq1, hq2⟩ := quart_ok ho hN hi hoo
                have hsB := hmB.1
                have htB := hTB.1
                refine lv_aload_n hx hb dX7_cut_181 rfl (hL.at 0 rfl) ?_
                refine lv_ldc2d hx hb hown (hq _ q732 rfl) dX7_cut_182 ?_
                refine lv_aload_n hx hb dX7_cut_185 rfl (hL.at 0 rfl) ?_
                refine k_get (ci := 9) (C := RX7) (T := TX7) (N := 15) hx hb hts w_RX7 hown hK hW (by first | with_reducible assumption | with_reducible exact up_s | (rw [up_n (by omega)]; first | with_reducible assumption | with_reducible exact up_s | (rw [up_n (by omega)]; first | with_reducible assumption | with_reducible exact up_s | (rw [up_n (by omega)]; first | with_reducible assumption | with_reducible exact up_s | (rw [up_n (by omega)]; first | with_reducible assumption | with_reducible exact up_s | (rw [up_n (by omega)]; first | with_reducible assumption | with_reducible exact up_s | (rw [up_n (by omega)]; first | with_reducible assumption | with_reducible exact up_s | (rw [up_n (by omega)]; first | with_reducible assumption | with_reducible exact up_s | (rw [up_n (by omega)]; first | with_reducible assumption | with_reducible exact up_s | (rw [up_n (by omega)]; first | with_reducible assumption | with_reducible exact up_s | (rw [up_n (by omega)]; first | with_reducible assumption | with_reducible exact up_s | (rw [up_n (by omega)]; first | with_reducible assumption | with_reducible exact up_s)))))))))))) rfl 5 (by decide) (hq _ q154 rfl) (fun _ h9 => h9) (by rfl) dX7_cut_186 ?_
                refine k_getN (ci := 8) (C := RX6) (T := TX6) (N := 11) hx hb hts w_RX6 hown hK hW (by first | with_reducible assumption | with_reducible exact up_s | (rw [up_n (by omega)]; first | with_reducible assumption | with_reducible exact up_s | (rw [up_n (by omega)]; first | with_reducible assumption | with_reducible exact up_s | (rw [up_n (by omega)]; first | with_reducible assumption | with_reducible exact up_s | (rw [up_n (by omega)]; first | with_reducible assumption | with_reducible exact up_s | (rw [up_n (by omega)]; first | with_reducible assumption | with_reducible exact up_s | (rw [up_n (by omega)]; first | with_reducible assumption | with_reducible exact up_s | (rw [up_n (by omega)]; first | with_reducible assumption | with_reducible exact up_s | (rw [up_n (by omega)]; first | with_reducible assumption | with_reducible exact up_s | (rw [up_n (by omega)]; first | with_reducible assumption | with_reducible exact up_s | (rw [up_n (by omega)]; first | with_reducible assumption | with_reducible exact up_s | (rw [up_n (by omega)]; first | with_reducible assumption | with_reducible exact up_s)))))))))))) rfl 4 (by decide) (hq _ q115 rfl) (fun _ h9 => h9) (by rfl) dX7_cut_189 ?_
                refine lv_topi (fun y hy => ?_)
                have hy2 : y = nI (fLaid M i o) := hy.trans (congrArg nI hlo.2.1.symm)
                subst hy2
                refine lv_i2d hx hb dX7_cut_192 ?_
                refine lv_dmul hx hb dX7_cut_193 hq1 ?_
                refine k_callV (q := (RX7, TX7, 15)) hx hb hml hown hts hK hI hS hW hL.1 (by first | with_reducible assumption | with_reducible exact up_s | (rw [up_n (by omega)]; first | with_reducible assumption | with_reducible exact up_s | (rw [up_n (by omega)]; first | with_reducible assumption | with_reducible exact up_s | (rw [up_n (by omega)]; first | with_reducible assumption | with_reducible exact up_s | (rw [up_n (by omega)]; first | with_reducible assumption | with_reducible exact up_s | (rw [up_n (by omega)]; first | with_reducible assumption | with_reducible exact up_s | (rw [up_n (by omega)]; first | with_reducible assumption | with_reducible exact up_s | (rw [up_n (by omega)]; first | with_reducible assumption | with_reducible exact up_s | (rw [up_n (by omega)]; first | with_reducible assumption | with_reducible exact up_s | (rw [up_n (by omega)]; first | with_reducible assumption | with_reducible exact up_s | (rw [up_n (by omega)]; first | with_reducible assumption | with_reducible exact up_s | (rw [up_n (by omega)]; first | with_reducible assumption | with_reducible exact up_s)))))))))))) rfl (c_spend G hmB hoB _ (cut_clk2 hq2)) (m5 (gT_in q733 rfl) (gT_in q735 rfl) (gT_in q24 rfl) (gT_in q55 rfl) (gT_in q736 rfl)) rfl (show kpar yX7_spend 1 from ⟨by decide, by decide, by decide +kernel⟩) ⟨by decide, by decide⟩ (by show _ ≤ (5 : Nat); omega) (by show _ ≤ (30 : Nat); omega) rfl (by first | decide | exact Nat.le_of_ble_eq_true rfl) dX7_cut_194 (fun v ad194 ct194 H locs hp hW hS => ?_)
                obtain ⟨rfl, h1, hv9, hr9⟩ := hp
                rw [h1] at hW
                have hmD : RepC cy ad ct194 (fC4 M i jc r84.2.2.2 nk o) := RepC_sSh hmB hoB _ (cut_clk hv9) hr9
                have hTD := hTB.kp (fun k a b => hr9 k (by omega))
                have hclD := hmD.2.2.1 jc (by rw [fC4_cl.2]; exact hc)
                rw [fC4_cl.1] at hclD
                refine lv_aload hx hb dX7_cut_197 (hL.at 6 rfl) ?_
                refine k_getN (ci := 2) (C := RX0) (T := TX0) (N := 6) hx hb hts w_RX0 hown hK hW (by first | with_reducible assumption | with_reducible exact up_s | (rw [up_n (by omega)]; first | with_reducible assumption | with_reducible exact up_s | (rw [up_n (by omega)]; first | with_reducible assumption | with_reducible exact up_s | (rw [up_n (by omega)]; first | with_reducible assumption | with_reducible exact up_s | (rw [up_n (by omega)]; first | with_reducible assumption | with_reducible exact up_s | (rw [up_n (by omega)]; first | with_reducible assumption | with_reducible exact up_s | (rw [up_n (by omega)]; first | with_reducible assumption | with_reducible exact up_s | (rw [up_n (by omega)]; first | with_reducible assumption | with_reducible exact up_s | (rw [up_n (by omega)]; first | with_reducible assumption | with_reducible exact up_s | (rw [up_n (by omega)]; first | with_reducible assumption | with_reducible exact up_s | (rw [up_n (by omega)]; first | with_reducible assumption | with_reducible exact up_s | (rw [up_n (by omega)]; first | with_reducible assumption | with_reducible exact up_s)))))))))))) rfl 4 (by decide) (hq _ q482 rfl) (fun _ h9 => h9) (by rfl) dX7_cut_199 ?_
                rw [hQ]
                exact vx_ret (k_dret hx hb hr hlocks hW hS (by omega) (by omega) dX7_cut_202 (⟨i, o, jc, hi, hxi, hoth, hc, rfl, c23, hsh, hst0, hst3, rfl, Or.inr ⟨r84, e84, Or.inr ⟨c111, rfl, by rw [← hnkd]; exact hmD, fun k a b c9 d9 e9 f9 => (hr9 k a).trans (hE k a b c9 d9 e9 f9)⟩⟩, _, _, _, _, _, hTD⟩))
              · rw [cg_ge] at c111
                refine lv_ldc2d hx hb hown (hq _ q721 rfl) dX7_cut_114 ?_
                rw [hQ]
                exact vx_ret (k_dret hx hb hr hlocks hW hS (by omega) (by omega) dX7_cut_117 (⟨i, o, jc, hi, hxi, hoth, hc, rfl, c23, hsh, hst0, hst3, rfl, Or.inr ⟨r84, e84, Or.inl ⟨by first | exact c111 | exact Decidable.not_not.mp c111, rfl, hk84⟩⟩, _, _, _, _, _, hT84⟩))
            · try dsimp only at c87
              exact absurd c87 (by decide)
          · refine lv_if_ne (tgt := 94) hx hb dX7_cut_87 (by decide) (fun c87 => ?_) (fun c87 => ?_)
            · try dsimp only at c87
              exact absurd c87 (by decide)
            · try dsimp only at c87
              refine lv_ldc2d hx hb hown (hq _ q720 rfl) dX7_cut_90 ?_
              rw [hQ]
              exact vx_ret (k_dret hx hb hr hlocks hW hS (by omega) (by omega) dX7_cut_93 (⟨i, o, jc, hi, hxi, hoth, hc, rfl, c23, hsh, hst0, hst3, rfl, Or.inl ⟨e84, rfl, hk84⟩, _, _, _, _, _, hT84⟩))
    · try dsimp only at c23
      have hbad : x = xo := by first | exact c23 | exact Decidable.not_not.mp c23
      rw [hQ]
      exact k_throw G hx hb hlocks (names := ["java/lang/RuntimeException", "java/lang/Exception"]) hown hts hq hI (by decide) (by decide) (gT_in q220 rfl) (gT_in q64 rfl) 21 rfl (fun w hw => hq w (at_54 w hw).1 (at_54 w hw).2) ot_54 hW hS (hL.1.trans hml.symm) hin dX7_cut_26 dX7_cut_29 dX7_cut_30 dX7_cut_32 dX7_cut_35 (by decide) (by decide) (by show _ ≤ (5 : Nat); omega) (by show _ ≤ (30 : Nat); omega) (by omega) (by omega) (by first | exact Or.inr (Or.inl ⟨rfl, ⟨i, hi, hxi⟩, (hoth.elim (fun z => Or.inl z.1) (fun ⟨i9, a9, b9, _⟩ => Or.inr ⟨i9, a9, b9⟩)), ⟨jc, hc, rfl⟩, hbad⟩) | exact Or.inr (Or.inr ⟨rfl, i, o, hi, hxi, hoth, ⟨jc, hc, rfl⟩, c23, hrf⟩))
  · obtain ⟨o, hoth, hoo, hspo, hlo⟩ : ∃ o, kOth xo (mO M) o ∧ (∀ i2, o = some i2 → i2 < mO M) ∧ (∀ jc, fSpo M i o jc = fSp2 M i i2 jc) ∧ (∀ jc nd nk, fC3 M i jc nd nk o = sOr (fC2 M i jc nd nk) i2 (fCut (fC2 M i jc nd nk) i2 (nI jc) (fCost (mcl M jc).2.2.2.2.2 nk) nk)) ∧ fLaid M i o = mCnt M i + mCnt M i2 ∧ (∀ nd, fNdK o nd = FP.ddiv nd cD2) ∧ o = some i2 := ⟨some i2, Or.inr ⟨i2, hi2, hxo, rfl⟩, (fun _ z => by cases z; exact hi2), fun _ => rfl, ⟨fun _ _ _ => rfl, rfl, fun _ => rfl, rfl⟩⟩
    have ooW := (hm.ord ho hi2).1
    have ostW := (ho.2.2.2.2.2 i2 hi2).2.2.2
    refine k_ast hx hb hL (i := 5) (by decide) dX7_cut_12 (fun ls hL => ?_)
    replace hL := hL.nrm (l' := [some _, some _, some _, some _, some _, some _, none, none, none, none]) rfl
    refine lv_aload_n hx hb dX7_cut_14 rfl (hL.at 0 rfl) ?_
    refine lv_iload_n hx hb dX7_cut_15 rfl (hL.at 3 rfl) ?_
    refine k_callVX (q := (RX7, TX7, 15)) hx hb hml hown hts hK hI hS hW hL.1 (by first | with_reducible assumption | with_reducible exact up_s | (rw [up_n (by omega)]; first | with_reducible assumption | with_reducible exact up_s | (rw [up_n (by omega)]; first | with_reducible assumption | with_reducible exact up_s | (rw [up_n (by omega)]; first | with_reducible assumption | with_reducible exact up_s | (rw [up_n (by omega)]; first | with_reducible assumption | with_reducible exact up_s | (rw [up_n (by omega)]; first | with_reducible assumption | with_reducible exact up_s | (rw [up_n (by omega)]; first | with_reducible assumption | with_reducible exact up_s | (rw [up_n (by omega)]; first | with_reducible assumption | with_reducible exact up_s | (rw [up_n (by omega)]; first | with_reducible assumption | with_reducible exact up_s | (rw [up_n (by omega)]; first | with_reducible assumption | with_reducible exact up_s | (rw [up_n (by omega)]; first | with_reducible assumption | with_reducible exact up_s | (rw [up_n (by omega)]; first | with_reducible assumption | with_reducible exact up_s)))))))))))) rfl (c_clothAt G hm ho xc) (m5 (gT_in q296 rfl) (gT_in q298 rfl) (gT_in q2 rfl) (gT_in q55 rfl) (gT_in q299 rfl)) rfl (show kpar yX7_clothAt 1 from ⟨by decide, by decide, by decide +kernel⟩) ⟨by decide, by decide⟩ (by show _ ≤ (5 : Nat); omega) (by show _ ≤ (30 : Nat); omega) rfl (by first | decide | exact Nat.le_of_ble_eq_true rfl) dX7_cut_16 (fun E ce q9 H locs hp hW hS hce hcv hcl => ?_) (fun v ad16 ct16 H locs hp hW hS => ?_)
    · rw [hQ]; exact k_out hown hlocks hin hW hS hce hcv hcl (by omega) (by omega) (Or.inl ⟨hp.1, Or.inr (Or.inr hp.2)⟩)
    obtain ⟨jc, hc, hxjc, rfl, h1, h2⟩ := hp
    rw [h1, h2] at hW
    refine k_ast hx hb hL (i := 6) (by decide) dX7_cut_19 (fun ls hL => ?_)
    replace hL := hL.nrm (l' := [some _, some _, some _, some _, some _, some _, some _, none, none, none]) rfl
    subst hxjc
    have hC := hm.2.2.1 jc hc
    refine lv_iload_n hx hb dX7_cut_21 rfl (hL.at 1 rfl) ?_
    refine lv_iload_n hx hb dX7_cut_22 rfl (hL.at 2 rfl) ?_
    refine lv_icmp_ne (tgt := 36) hx hb dX7_cut_23 (by decide) (fun c23 => ?_) (fun c23 => ?_)
    · try dsimp only at c23
      
      refine lv_aload_n hx hb dX7_cut_36 rfl (hL.at 0 rfl) ?_
      refine k_get (ci := 9) (C := RX7) (T := TX7) (N := 15) hx hb hts w_RX7 hown hK hW (by first | with_reducible assumption | with_reducible exact up_s | (rw [up_n (by omega)]; first | with_reducible assumption | with_reducible exact up_s | (rw [up_n (by omega)]; first | with_reducible assumption | with_reducible exact up_s | (rw [up_n (by omega)]; first | with_reducible assumption | with_reducible exact up_s | (rw [up_n (by omega)]; first | with_reducible assumption | with_reducible exact up_s | (rw [up_n (by omega)]; first | with_reducible assumption | with_reducible exact up_s | (rw [up_n (by omega)]; first | with_reducible assumption | with_reducible exact up_s | (rw [up_n (by omega)]; first | with_reducible assumption | with_reducible exact up_s | (rw [up_n (by omega)]; first | with_reducible assumption | with_reducible exact up_s | (rw [up_n (by omega)]; first | with_reducible assumption | with_reducible exact up_s | (rw [up_n (by omega)]; first | with_reducible assumption | with_reducible exact up_s | (rw [up_n (by omega)]; first | with_reducible assumption | with_reducible exact up_s)))))))))))) rfl 14 (by decide) (hq _ q163 rfl) (fun _ h9 => h9) (by rfl) dX7_cut_37 ?_
      refine lv_if_ne (tgt := 64) hx hb dX7_cut_40 (by decide) (fun c40 => ?_) (fun c40 => ?_)
      · try simp only [b2_eq, Decidable.not_not] at c40
        try dsimp only at c40
        have hrf : ¬ mShut M = 0 ∨ ¬ oState (mod M i) = 0 ∨ ∃ i2, o = some i2 ∧ ¬ oState (mod M i2) = 0 := Or.inl (by first | exact c40 | exact Decidable.not_not.mp c40)
        rw [hQ]
        exact k_throw G hx hb hlocks (names := ["java/lang/RuntimeException", "java/lang/Exception"]) hown hts hq hI (by decide) (by decide) (gT_in q449 rfl) (gT_in q65 rfl) 22 rfl (fun w hw => hq w (at_65 w hw).1 (at_65 w hw).2) ot_65 hW hS (hL.1.trans hml.symm) hin dX7_cut_64 dX7_cut_67 dX7_cut_68 dX7_cut_70 dX7_cut_73 (by decide) (by decide) (by show _ ≤ (5 : Nat); omega) (by show _ ≤ (30 : Nat); omega) (by omega) (by omega) (by first | exact Or.inr (Or.inl ⟨rfl, ⟨i, hi, hxi⟩, (hoth.elim (fun z => Or.inl z.1) (fun ⟨i9, a9, b9, _⟩ => Or.inr ⟨i9, a9, b9⟩)), ⟨jc, hc, rfl⟩, hbad⟩) | exact Or.inr (Or.inr ⟨rfl, i, o, hi, hxi, hoth, ⟨jc, hc, rfl⟩, c23, hrf⟩))
      · try simp only [b2_eq, Decidable.not_not] at c40
        try dsimp only at c40
        have hsh : mShut M = 0 := by first | exact c40 | exact Decidable.not_not.mp c40
        refine lv_aload hx hb dX7_cut_43 (hL.at 4 rfl) ?_
        refine k_getN (ci := 4) (C := RX2) (T := TX2) (N := 10) hx hb hts w_RX2 hown hK hW (by first | with_reducible assumption | with_reducible exact up_s | (rw [up_n (by omega)]; first | with_reducible assumption | with_reducible exact up_s | (rw [up_n (by omega)]; first | with_reducible assumption | with_reducible exact up_s | (rw [up_n (by omega)]; first | with_reducible assumption | with_reducible exact up_s | (rw [up_n (by omega)]; first | with_reducible assumption | with_reducible exact up_s | (rw [up_n (by omega)]; first | with_reducible assumption | with_reducible exact up_s | (rw [up_n (by omega)]; first | with_reducible assumption | with_reducible exact up_s | (rw [up_n (by omega)]; first | with_reducible assumption | with_reducible exact up_s | (rw [up_n (by omega)]; first | with_reducible assumption | with_reducible exact up_s | (rw [up_n (by omega)]; first | with_reducible assumption | with_reducible exact up_s | (rw [up_n (by omega)]; first | with_reducible assumption | with_reducible exact up_s | (rw [up_n (by omega)]; first | with_reducible assumption | with_reducible exact up_s)))))))))))) rfl 4 (by decide) (hq _ q679 rfl) (fun _ h9 => h9) (by rfl) dX7_cut_45 ?_
        refine lv_if_ne (tgt := 64) hx hb dX7_cut_48 (by decide) (fun c48 => ?_) (fun c48 => ?_)
        · try simp only [b2_eq, Decidable.not_not] at c48
          try dsimp only at c48
          have hrf : ¬ mShut M = 0 ∨ ¬ oState (mod M i) = 0 ∨ ∃ i2, o = some i2 ∧ ¬ oState (mod M i2) = 0 := Or.inr (Or.inl (fun z => c48 (by rw [z]; rfl)))
          rw [hQ]
          exact k_throw G hx hb hlocks (names := ["java/lang/RuntimeException", "java/lang/Exception"]) hown hts hq hI (by decide) (by decide) (gT_in q449 rfl) (gT_in q65 rfl) 22 rfl (fun w hw => hq w (at_65 w hw).1 (at_65 w hw).2) ot_65 hW hS (hL.1.trans hml.symm) hin dX7_cut_64 dX7_cut_67 dX7_cut_68 dX7_cut_70 dX7_cut_73 (by decide) (by decide) (by show _ ≤ (5 : Nat); omega) (by show _ ≤ (30 : Nat); omega) (by omega) (by omega) (by first | exact Or.inr (Or.inl ⟨rfl, ⟨i, hi, hxi⟩, (hoth.elim (fun z => Or.inl z.1) (fun ⟨i9, a9, b9, _⟩ => Or.inr ⟨i9, a9, b9⟩)), ⟨jc, hc, rfl⟩, hbad⟩) | exact Or.inr (Or.inr ⟨rfl, i, o, hi, hxi, hoth, ⟨jc, hc, rfl⟩, c23, hrf⟩))
        · try simp only [b2_eq, Decidable.not_not] at c48
          try dsimp only at c48
          have hst0 : oState (mod M i) = 0 := by
            rcases Nat.eq_zero_or_pos (oState (mod M i)) with q9 | q9
            · exact q9
            · exact absurd (by first | exact c48 | exact Decidable.not_not.mp c48) (nI_ne0 q9 (by omega))
          refine lv_aload hx hb dX7_cut_51 (hL.at 5 rfl) ?_
          refine lv_ifnull hx hb dX7_cut_53 ?_
          refine lv_aload hx hb dX7_cut_56 (hL.at 5 rfl) ?_
          refine k_getN (ci := 4) (C := RX2) (T := TX2) (N := 10) hx hb hts w_RX2 hown hK hW (by first | with_reducible assumption | with_reducible exact up_s | (rw [up_n (by omega)]; first | with_reducible assumption | with_reducible exact up_s | (rw [up_n (by omega)]; first | with_reducible assumption | with_reducible exact up_s | (rw [up_n (by omega)]; first | with_reducible assumption | with_reducible exact up_s | (rw [up_n (by omega)]; first | with_reducible assumption | with_reducible exact up_s | (rw [up_n (by omega)]; first | with_reducible assumption | with_reducible exact up_s | (rw [up_n (by omega)]; first | with_reducible assumption | with_reducible exact up_s | (rw [up_n (by omega)]; first | with_reducible assumption | with_reducible exact up_s | (rw [up_n (by omega)]; first | with_reducible assumption | with_reducible exact up_s | (rw [up_n (by omega)]; first | with_reducible assumption | with_reducible exact up_s | (rw [up_n (by omega)]; first | with_reducible assumption | with_reducible exact up_s | (rw [up_n (by omega)]; first | with_reducible assumption | with_reducible exact up_s)))))))))))) rfl 4 (by decide) (hq _ q679 rfl) (fun _ h9 => h9) (by rfl) dX7_cut_58 ?_
          refine lv_if_eq (tgt := 74) hx hb dX7_cut_61 (by decide) (fun c61 => ?_) (fun c61 => ?_)
          · try simp only [b2_eq, Decidable.not_not] at c61
            try dsimp only at c61
            have hst2 : oState (mod M i2) = 0 := by
              rcases Nat.eq_zero_or_pos (oState (mod M i2)) with q9 | q9
              · exact q9
              · exact absurd (by first | exact c61 | exact Decidable.not_not.mp c61) (nI_ne0 q9 (by omega))
            have hst3 : ∀ i9, o = some i9 → oState (mod M i9) = 0 := fun i9 z => by cases hlo.2.2.2.symm.trans z; exact hst2
            have hst3 : ∀ i9, o = some i9 → oState (mod M i9) = 0 := by first | exact hst3 | exact fun i9 z => absurd (hlo.2.2.2.symm.trans z) (by intro q9; cases q9)
            refine lv_aload_n hx hb dX7_cut_74 rfl (hL.at 0 rfl) ?_
            refine k_get (ci := 9) (C := RX7) (T := TX7) (N := 15) hx hb hts w_RX7 hown hK hW (by first | with_reducible assumption | with_reducible exact up_s | (rw [up_n (by omega)]; first | with_reducible assumption | with_reducible exact up_s | (rw [up_n (by omega)]; first | with_reducible assumption | with_reducible exact up_s | (rw [up_n (by omega)]; first | with_reducible assumption | with_reducible exact up_s | (rw [up_n (by omega)]; first | with_reducible assumption | with_reducible exact up_s | (rw [up_n (by omega)]; first | with_reducible assumption | with_reducible exact up_s | (rw [up_n (by omega)]; first | with_reducible assumption | with_reducible exact up_s | (rw [up_n (by omega)]; first | with_reducible assumption | with_reducible exact up_s | (rw [up_n (by omega)]; first | with_reducible assumption | with_reducible exact up_s | (rw [up_n (by omega)]; first | with_reducible assumption | with_reducible exact up_s | (rw [up_n (by omega)]; first | with_reducible assumption | with_reducible exact up_s | (rw [up_n (by omega)]; first | with_reducible assumption | with_reducible exact up_s)))))))))))) rfl 5 (by decide) (hq _ q154 rfl) (fun _ h9 => h9) (by rfl) dX7_cut_75 ?_
            refine lv_aload hx hb dX7_cut_78 (hL.at 4 rfl) ?_
            refine lv_aload hx hb dX7_cut_80 (hL.at 5 rfl) ?_
            refine lv_aload hx hb dX7_cut_82 (hL.at 6 rfl) ?_
            refine k_callVN (q := (RX6, TX6, 11)) (host := "TailorBench") hx hb hml hown hts hK hI hS hW hL.1 (by first | with_reducible assumption | with_reducible exact up_s | (rw [up_n (by omega)]; first | with_reducible assumption | with_reducible exact up_s | (rw [up_n (by omega)]; first | with_reducible assumption | with_reducible exact up_s | (rw [up_n (by omega)]; first | with_reducible assumption | with_reducible exact up_s | (rw [up_n (by omega)]; first | with_reducible assumption | with_reducible exact up_s | (rw [up_n (by omega)]; first | with_reducible assumption | with_reducible exact up_s | (rw [up_n (by omega)]; first | with_reducible assumption | with_reducible exact up_s | (rw [up_n (by omega)]; first | with_reducible assumption | with_reducible exact up_s | (rw [up_n (by omega)]; first | with_reducible assumption | with_reducible exact up_s | (rw [up_n (by omega)]; first | with_reducible assumption | with_reducible exact up_s | (rw [up_n (by omega)]; first | with_reducible assumption | with_reducible exact up_s | (rw [up_n (by omega)]; first | with_reducible assumption | with_reducible exact up_s)))))))))))) rfl (c_spread2 G hm ho hi hc hT hN hi2) (gT_in q365 rfl) (hq _ q362 rfl) (hq _ q56 rfl) (hq _ q364 rfl) (hq _ q7 rfl) (show kpar yX6_spread 3 from ⟨by decide, by decide, by decide +kernel⟩) ⟨by decide, by decide⟩ (by show _ ≤ (5 : Nat); omega) (by show _ ≤ (30 : Nat); omega) rfl (by first | decide | exact Nat.le_of_ble_eq_true rfl) dX7_cut_84 (fun v ad84 ct84 H locs hp hW hS => ?_)
            obtain ⟨h1, hk84, ha84⟩ := hp
            rw [h1] at hW
            rw [← hspo jc] at ha84
            have hm84 := hm.out ho hk84
            have hs84 := hm84.1
            have hC84 := hm84.2.2.1 jc hc
            rcases ha84 with ⟨r84, fl84, fw84, fh84, fr84, e84, rfl, hT84⟩ | ⟨e84, rfl, tb84, fl84, fw84, fh84, fr84, hT84⟩
            · obtain ⟨t7, t8, t9, t10, t11⟩ := id hT84
              refine lv_if_ne (tgt := 94) hx hb dX7_cut_87 (by decide) (fun c87 => ?_) (fun c87 => ?_)
              · try dsimp only at c87
                refine lv_aload_n hx hb dX7_cut_94 rfl (hL.at 0 rfl) ?_
                refine k_get (ci := 9) (C := RX7) (T := TX7) (N := 15) hx hb hts w_RX7 hown hK hW (by first | with_reducible assumption | with_reducible exact up_s | (rw [up_n (by omega)]; first | with_reducible assumption | with_reducible exact up_s | (rw [up_n (by omega)]; first | with_reducible assumption | with_reducible exact up_s | (rw [up_n (by omega)]; first | with_reducible assumption | with_reducible exact up_s | (rw [up_n (by omega)]; first | with_reducible assumption | with_reducible exact up_s | (rw [up_n (by omega)]; first | with_reducible assumption | with_reducible exact up_s | (rw [up_n (by omega)]; first | with_reducible assumption | with_reducible exact up_s | (rw [up_n (by omega)]; first | with_reducible assumption | with_reducible exact up_s | (rw [up_n (by omega)]; first | with_reducible assumption | with_reducible exact up_s | (rw [up_n (by omega)]; first | with_reducible assumption | with_reducible exact up_s | (rw [up_n (by omega)]; first | with_reducible assumption | with_reducible exact up_s | (rw [up_n (by omega)]; first | with_reducible assumption | with_reducible exact up_s)))))))))))) rfl 5 (by decide) (hq _ q154 rfl) (fun _ h9 => h9) (by rfl) dX7_cut_95 ?_
                refine k_getN (ci := 8) (C := RX6) (T := TX6) (N := 11) hx hb hts w_RX6 hown hK hW (by first | with_reducible assumption | with_reducible exact up_s | (rw [up_n (by omega)]; first | with_reducible assumption | with_reducible exact up_s | (rw [up_n (by omega)]; first | with_reducible assumption | with_reducible exact up_s | (rw [up_n (by omega)]; first | with_reducible assumption | with_reducible exact up_s | (rw [up_n (by omega)]; first | with_reducible assumption | with_reducible exact up_s | (rw [up_n (by omega)]; first | with_reducible assumption | with_reducible exact up_s | (rw [up_n (by omega)]; first | with_reducible assumption | with_reducible exact up_s | (rw [up_n (by omega)]; first | with_reducible assumption | with_reducible exact up_s | (rw [up_n (by omega)]; first | with_reducible assumption | with_reducible exact up_s | (rw [up_n (by omega)]; first | with_reducible assumption | with_reducible exact up_s | (rw [up_n (by omega)]; first | with_reducible assumption | with_reducible exact up_s | (rw [up_n (by omega)]; first | with_reducible assumption | with_reducible exact up_s)))))))))))) rfl 7 (by decide) (hq _ q121 rfl) (fun _ h9 => h9) (by rfl) dX7_cut_98 ?_
                refine lv_topd (fun y hy => ?_)
                have hy2 : y = r84.2.2.2 := hy
                subst hy2
                refine k_dst hx hb hL (i := 7) (by decide) dX7_cut_101 (fun ls hL => ?_)
                replace hL := hL.nrm (l' := [some _, some _, some _, some _, some _, some _, some _, some _, none, none]) rfl
                refine lv_aload hx hb dX7_cut_103 (hL.at 6 rfl) ?_
                refine k_getN (ci := 2) (C := RX0) (T := TX0) (N := 6) hx hb hts w_RX0 hown hK hW (by first | with_reducible assumption | with_reducible exact up_s | (rw [up_n (by omega)]; first | with_reducible assumption | with_reducible exact up_s | (rw [up_n (by omega)]; first | with_reducible assumption | with_reducible exact up_s | (rw [up_n (by omega)]; first | with_reducible assumption | with_reducible exact up_s | (rw [up_n (by omega)]; first | with_reducible assumption | with_reducible exact up_s | (rw [up_n (by omega)]; first | with_reducible assumption | with_reducible exact up_s | (rw [up_n (by omega)]; first | with_reducible assumption | with_reducible exact up_s | (rw [up_n (by omega)]; first | with_reducible assumption | with_reducible exact up_s | (rw [up_n (by omega)]; first | with_reducible assumption | with_reducible exact up_s | (rw [up_n (by omega)]; first | with_reducible assumption | with_reducible exact up_s | (rw [up_n (by omega)]; first | with_reducible assumption | with_reducible exact up_s | (rw [up_n (by omega)]; first | with_reducible assumption | with_reducible exact up_s)))))))))))) rfl 4 (by decide) (hq _ q482 rfl) (fun _ h9 => h9) (by rfl) dX7_cut_105 ?_
                refine lv_dload hx hb dX7_cut_108 (hL.at 7 rfl) ?_
                refine lv_dcmp hx hb dX7_cut_110 ?_
                refine lv_if_ge (tgt := 118) hx hb dX7_cut_111 (by decide) (fun c111 => ?_) (fun c111 => ?_)
                · rw [cg_ge] at c111
                  refine lv_aload hx hb dX7_cut_118 (hL.at 6 rfl) ?_
                  refine lv_aload hx hb dX7_cut_120 (hL.at 6 rfl) ?_
                  refine k_getN (ci := 2) (C := RX0) (T := TX0) (N := 6) hx hb hts w_RX0 hown hK hW (by first | with_reducible assumption | with_reducible exact up_s | (rw [up_n (by omega)]; first | with_reducible assumption | with_reducible exact up_s | (rw [up_n (by omega)]; first | with_reducible assumption | with_reducible exact up_s | (rw [up_n (by omega)]; first | with_reducible assumption | with_reducible exact up_s | (rw [up_n (by omega)]; first | with_reducible assumption | with_reducible exact up_s | (rw [up_n (by omega)]; first | with_reducible assumption | with_reducible exact up_s | (rw [up_n (by omega)]; first | with_reducible assumption | with_reducible exact up_s | (rw [up_n (by omega)]; first | with_reducible assumption | with_reducible exact up_s | (rw [up_n (by omega)]; first | with_reducible assumption | with_reducible exact up_s | (rw [up_n (by omega)]; first | with_reducible assumption | with_reducible exact up_s | (rw [up_n (by omega)]; first | with_reducible assumption | with_reducible exact up_s | (rw [up_n (by omega)]; first | with_reducible assumption | with_reducible exact up_s)))))))))))) rfl 4 (by decide) (hq _ q482 rfl) (fun _ h9 => h9) (by rfl) dX7_cut_122 ?_
                  refine lv_dload hx hb dX7_cut_125 (hL.at 7 rfl) ?_
                  refine lv_dsub hx hb dX7_cut_127 (vf_sub (hN.1 jc hc).2.1.fin (fSpo_ok ho hN hi hc hoo e84).1.fin) ?_
                  refine k_putN (ci := 2) (C := RX0) (T := TX0) (N := 6) (ty := tyX0 4) hx hb hts w_RX0 tyX0 tyX0_ok nmX0 hown hK hW hS (by first | with_reducible assumption | with_reducible exact up_s | (rw [up_n (by omega)]; first | with_reducible assumption | with_reducible exact up_s | (rw [up_n (by omega)]; first | with_reducible assumption | with_reducible exact up_s | (rw [up_n (by omega)]; first | with_reducible assumption | with_reducible exact up_s | (rw [up_n (by omega)]; first | with_reducible assumption | with_reducible exact up_s | (rw [up_n (by omega)]; first | with_reducible assumption | with_reducible exact up_s | (rw [up_n (by omega)]; first | with_reducible assumption | with_reducible exact up_s | (rw [up_n (by omega)]; first | with_reducible assumption | with_reducible exact up_s | (rw [up_n (by omega)]; first | with_reducible assumption | with_reducible exact up_s | (rw [up_n (by omega)]; first | with_reducible assumption | with_reducible exact up_s | (rw [up_n (by omega)]; first | with_reducible assumption | with_reducible exact up_s | (rw [up_n (by omega)]; first | with_reducible assumption | with_reducible exact up_s)))))))))))) (by omega) rfl 4 (by decide) (hq _ q482 rfl) (fun _ h9 => h9) rfl (by decide +kernel) rfl rfl (by first | exact Nat.le_of_ble_eq_true rfl | (simp only [List.length_set]; exact Nat.le_of_ble_eq_true rfl)) dX7_cut_128 (fun H locs hW hS => ?_)
                  obtain ⟨a572, hnk0, hnk1, hcst⟩ := fSpo_ok ho hN hi hc hoo e84
                  have hnk := hlo.2.2.1 r84.2.2.2
                  obtain ⟨nk, hnkd⟩ : ∃ z, z = fNdK o r84.2.2.2 := ⟨_, rfl⟩
                  rw [← hnkd] at hnk0 hcst hnk
                  have hmA : RepC cy ad (up ct84 (16 + jc) (oCl (fCutC M jc r84.2.2.2))) (fC1 M jc r84.2.2.2) := RepC_sCl hm84 ho hc _ up_s (fun j hj => up_n hj)
                  have hoA := okM_fC1 ho hc r84.2.2.2
                  have hTA := hT84.kp (ct' := up ct84 (16 + jc) (oCl (fCutC M jc r84.2.2.2))) (fun k a b => up_n (by omega))
                  have hrA : ∀ k, (k < 7 ∨ 11 < k) → k ≠ 16 + jc → (up ct84 (16 + jc) (oCl (fCutC M jc r84.2.2.2))) k = ct k := fun k a b => (up_n b).trans (hk84 k a)
                  have ooA := (hmA.ord hoA hi).1
                  have hsA := hmA.1
                  refine lv_aload hx hb dX7_cut_131 (hL.at 5 rfl) ?_
                  refine lv_ifnonnull (tgt := 152) hx hb dX7_cut_133 (by decide) ?_
                  refine lv_aload hx hb dX7_cut_152 (hL.at 6 rfl) ?_
                  refine lv_dload hx hb dX7_cut_154 (hL.at 7 rfl) ?_
                  refine lv_ldc2d hx hb hown (hq _ q731 rfl) dX7_cut_156 ?_
                  refine lv_ddiv hx hb dX7_cut_159 ((fSpo_ok ho hN hi hc hoo e84).2.2.1 i2 hlo.2.2.2) ?_
                  refine lv_topd (fun y hy => ?_)
                  have hy2 : y = nk := hy.trans hnk.symm
                  rw [hy2]
                  clear hy2 hy
                  refine k_callS hx hb hml hown hts hI hS hW hL.1 (c_costOf G hmA hoA hc nk (by rw [fC1_pr]; exact hcst)) (m4 (gT_in q722 rfl) (gT_in q723 rfl) (gT_in q55 rfl) (gT_in q724 rfl)) (show kpar yX7_costOf 2 from ⟨by decide, by decide, by decide +kernel⟩) ⟨by decide, by decide⟩ (by show _ ≤ (5 : Nat); omega) (by show _ ≤ (30 : Nat); omega) rfl (by first | decide | exact Nat.le_of_ble_eq_true rfl) dX7_cut_160 (fun v ad160 ct160 H locs hp hW hS => ?_)
                  obtain ⟨rfl, h1, h2⟩ := hp
                  rw [h1, h2] at hW
                  rw [fC1_pr]
                  refine k_ist hx hb hL (i := 9) (by decide) dX7_cut_163 (fun ls hL => ?_)
                  replace hL := hL.nrm (l' := [some _, some _, some _, some _, some _, some _, some _, some _, none, some _]) rfl
                  refine lv_aload hx hb dX7_cut_165 (hL.at 4 rfl) ?_
                  refine lv_iload_n hx hb dX7_cut_167 rfl (hL.at 3 rfl) ?_
                  refine lv_iload hx hb dX7_cut_168 (hL.at 9 rfl) ?_
                  refine k_callVN (q := (RX2, TX2, 10)) (host := "TailorBench") hx hb hml hown hts hK hI hS hW hL.1 (by first | with_reducible assumption | with_reducible exact up_s | (rw [up_n (by omega)]; first | with_reducible assumption | with_reducible exact up_s | (rw [up_n (by omega)]; first | with_reducible assumption | with_reducible exact up_s | (rw [up_n (by omega)]; first | with_reducible assumption | with_reducible exact up_s | (rw [up_n (by omega)]; first | with_reducible assumption | with_reducible exact up_s | (rw [up_n (by omega)]; first | with_reducible assumption | with_reducible exact up_s | (rw [up_n (by omega)]; first | with_reducible assumption | with_reducible exact up_s | (rw [up_n (by omega)]; first | with_reducible assumption | with_reducible exact up_s | (rw [up_n (by omega)]; first | with_reducible assumption | with_reducible exact up_s | (rw [up_n (by omega)]; first | with_reducible assumption | with_reducible exact up_s | (rw [up_n (by omega)]; first | with_reducible assumption | with_reducible exact up_s | (rw [up_n (by omega)]; first | with_reducible assumption | with_reducible exact up_s)))))))))))) rfl (c_keepCut G hmA hoA hi (nI jc) _) (gT_in q730 rfl) (hq _ q727 rfl) (hq _ q80 rfl) (hq _ q729 rfl) (hq _ q23 rfl) (show kpar yX2_keepCut 2 from ⟨by decide, by decide, by decide +kernel⟩) ⟨by decide, by decide⟩ (by show _ ≤ (5 : Nat); omega) (by show _ ≤ (30 : Nat); omega) rfl (Nat.le_of_ble_eq_true rfl) dX7_cut_170 (fun v ad170 ct170 H locs hp hW hS => ?_)
                  obtain ⟨rfl, h1, hv1, hr1⟩ := hp
                  rw [h1] at hW
                  have hmZ : RepC cy ad ct170 (fC2 M i jc r84.2.2.2 nk) := RepC_sOr hmA hoA hi _ (hv1 _).1 (hv1 _).2 hr1
                  have hoZ := okM_fC2 ho hi hc r84.2.2.2 nk
                  have hTZ := hTA.kp (fun k a b => hr1 k (by omega) (by omega))
                  have hsZ := hmZ.1
                  have ooZ := (hmZ.ord hoZ hi2).1
                  refine lv_aload hx hb dX7_cut_173 (hL.at 5 rfl) ?_
                  refine lv_iload_n hx hb dX7_cut_175 rfl (hL.at 3 rfl) ?_
                  refine lv_iload hx hb dX7_cut_176 (hL.at 9 rfl) ?_
                  refine k_callVN (q := (RX2, TX2, 10)) (host := "TailorBench") hx hb hml hown hts hK hI hS hW hL.1 ooZ rfl (c_keepCut G hmZ hoZ hi2 (nI jc) _) (gT_in q730 rfl) (hq _ q727 rfl) (hq _ q80 rfl) (hq _ q729 rfl) (hq _ q23 rfl) (show kpar yX2_keepCut 2 from ⟨by decide, by decide, by decide +kernel⟩) ⟨by decide, by decide⟩ (by show _ ≤ (5 : Nat); omega) (by show _ ≤ (30 : Nat); omega) rfl (Nat.le_of_ble_eq_true rfl) dX7_cut_178 (fun v ad178 ct178 H locs hp hW hS => ?_)
                  obtain ⟨rfl, h1, hv2, hr2⟩ := hp
                  rw [h1] at hW
                  have hmB := RepC_sOr hmZ hoZ hi2 _ (hv2 nk).1 (hv2 nk).2 hr2
                  rw [← hlo.1] at hmB
                  have hoB := okM_fC3 ho hi hc r84.2.2.2 nk o hoo
                  have hTB := hTZ.kp (fun k a b => hr2 k (by omega) (by omega))
                  have hE : ∀ k, k ≠ 1 → (k < 7 ∨ 11 < k) → k ≠ 16 + jc → k ≠ 64 + i → k ≠ 72 + i → (∀ i2, o = some i2 → k ≠ 64 + i2 ∧ k ≠ 72 + i2) → ct178 k = ct k := fun k a b c9 d9 e9 f9 => (hr2 k (f9 i2 hlo.2.2.2).1 (f9 i2 hlo.2.2.2).2).trans ((hr1 k d9 e9).trans (hrA k b c9))
                  obtain ⟨hq1, hq2⟩ := quart_ok ho hN hi hoo
                  have hsB := hmB.1
                  have htB := hTB.1
                  refine lv_aload_n hx hb dX7_cut_181 rfl (hL.at 0 rfl) ?_
                  refine lv_ldc2d hx hb hown (hq _ q732 rfl) dX7_cut_182 ?_
                  refine lv_aload_n hx hb dX7_cut_185 rfl (hL.at 0 rfl) ?_
                  refine k_get (ci := 9) (C := RX7) (T := TX7) (N := 15) hx hb hts w_RX7 hown hK hW (by first | with_reducible assumption | with_reducible exact up_s | (rw [up_n (by omega)]; first | with_reducible assumption | with_reducible exact up_s | (rw [up_n (by omega)]; first | with_reducible assumption | with_reducible exact up_s | (rw [up_n (by omega)]; first | with_reducible assumption | with_reducible exact up_s | (rw [up_n (by omega)]; first | with_reducible assumption | with_reducible exact up_s | (rw [up_n (by omega)]; first | with_reducible assumption | with_reducible exact up_s | (rw [up_n (by omega)]; first | with_reducible assumption | with_reducible exact up_s | (rw [up_n (by omega)]; first | with_reducible assumption | with_reducible exact up_s | (rw [up_n (by omega)]; first | with_reducible assumption | with_reducible exact up_s | (rw [up_n (by omega)]; first | with_reducible assumption | with_reducible exact up_s | (rw [up_n (by omega)]; first | with_reducible assumption | with_reducible exact up_s | (rw [up_n (by omega)]; first | with_reducible assumption | with_reducible exact up_s)))))))))))) rfl 5 (by decide) (hq _ q154 rfl) (fun _ h9 => h9) (by rfl) dX7_cut_186 ?_
                  refine k_getN (ci := 8) (C := RX6) (T := TX6) (N := 11) hx hb hts w_RX6 hown hK hW (by first | with_reducible assumption | with_reducible exact up_s | (rw [up_n (by omega)]; first | with_reducible assumption | with_reducible exact up_s | (rw [up_n (by omega)]; first | with_reducible assumption | with_reducible exact up_s | (rw [up_n (by omega)]; first | with_reducible assumption | with_reducible exact up_s | (rw [up_n (by omega)]; first | with_reducible assumption | with_reducible exact up_s | (rw [up_n (by omega)]; first | with_reducible assumption | with_reducible exact up_s | (rw [up_n (by omega)]; first | with_reducible assumption | with_reducible exact up_s | (rw [up_n (by omega)]; first | with_reducible assumption | with_reducible exact up_s | (rw [up_n (by omega)]; first | with_reducible assumption | with_reducible exact up_s | (rw [up_n (by omega)]; first | with_reducible assumption | with_reducible exact up_s | (rw [up_n (by omega)]; first | with_reducible assumption | with_reducible exact up_s | (rw [up_n (by omega)]; first | with_reducible assumption | with_reducible exact up_s)))))))))))) rfl 4 (by decide) (hq _ q115 rfl) (fun _ h9 => h9) (by rfl) dX7_cut_189 ?_
                  refine lv_topi (fun y hy => ?_)
                  have hy2 : y = nI (fLaid M i o) := hy.trans (congrArg nI hlo.2.1.symm)
                  subst hy2
                  refine lv_i2d hx hb dX7_cut_192 ?_
                  refine lv_dmul hx hb dX7_cut_193 hq1 ?_
                  refine k_callV (q := (RX7, TX7, 15)) hx hb hml hown hts hK hI hS hW hL.1 (by first | with_reducible assumption | with_reducible exact up_s | (rw [up_n (by omega)]; first | with_reducible assumption | with_reducible exact up_s | (rw [up_n (by omega)]; first | with_reducible assumption | with_reducible exact up_s | (rw [up_n (by omega)]; first | with_reducible assumption | with_reducible exact up_s | (rw [up_n (by omega)]; first | with_reducible assumption | with_reducible exact up_s | (rw [up_n (by omega)]; first | with_reducible assumption | with_reducible exact up_s | (rw [up_n (by omega)]; first | with_reducible assumption | with_reducible exact up_s | (rw [up_n (by omega)]; first | with_reducible assumption | with_reducible exact up_s | (rw [up_n (by omega)]; first | with_reducible assumption | with_reducible exact up_s | (rw [up_n (by omega)]; first | with_reducible assumption | with_reducible exact up_s | (rw [up_n (by omega)]; first | with_reducible assumption | with_reducible exact up_s | (rw [up_n (by omega)]; first | with_reducible assumption | with_reducible exact up_s)))))))))))) rfl (c_spend G hmB hoB _ (cut_clk2 hq2)) (m5 (gT_in q733 rfl) (gT_in q735 rfl) (gT_in q24 rfl) (gT_in q55 rfl) (gT_in q736 rfl)) rfl (show kpar yX7_spend 1 from ⟨by decide, by decide, by decide +kernel⟩) ⟨by decide, by decide⟩ (by show _ ≤ (5 : Nat); omega) (by show _ ≤ (30 : Nat); omega) rfl (by first | decide | exact Nat.le_of_ble_eq_true rfl) dX7_cut_194 (fun v ad194 ct194 H locs hp hW hS => ?_)
                  obtain ⟨rfl, h1, hv9, hr9⟩ := hp
                  rw [h1] at hW
                  have hmD : RepC cy ad ct194 (fC4 M i jc r84.2.2.2 nk o) := RepC_sSh hmB hoB _ (cut_clk hv9) hr9
                  have hTD := hTB.kp (fun k a b => hr9 k (by omega))
                  have hclD := hmD.2.2.1 jc (by rw [fC4_cl.2]; exact hc)
                  rw [fC4_cl.1] at hclD
                  refine lv_aload hx hb dX7_cut_197 (hL.at 6 rfl) ?_
                  refine k_getN (ci := 2) (C := RX0) (T := TX0) (N := 6) hx hb hts w_RX0 hown hK hW (by first | with_reducible assumption | with_reducible exact up_s | (rw [up_n (by omega)]; first | with_reducible assumption | with_reducible exact up_s | (rw [up_n (by omega)]; first | with_reducible assumption | with_reducible exact up_s | (rw [up_n (by omega)]; first | with_reducible assumption | with_reducible exact up_s | (rw [up_n (by omega)]; first | with_reducible assumption | with_reducible exact up_s | (rw [up_n (by omega)]; first | with_reducible assumption | with_reducible exact up_s | (rw [up_n (by omega)]; first | with_reducible assumption | with_reducible exact up_s | (rw [up_n (by omega)]; first | with_reducible assumption | with_reducible exact up_s | (rw [up_n (by omega)]; first | with_reducible assumption | with_reducible exact up_s | (rw [up_n (by omega)]; first | with_reducible assumption | with_reducible exact up_s | (rw [up_n (by omega)]; first | with_reducible assumption | with_reducible exact up_s | (rw [up_n (by omega)]; first | with_reducible assumption | with_reducible exact up_s)))))))))))) rfl 4 (by decide) (hq _ q482 rfl) (fun _ h9 => h9) (by rfl) dX7_cut_199 ?_
                  rw [hQ]
                  exact vx_ret (k_dret hx hb hr hlocks hW hS (by omega) (by omega) dX7_cut_202 (⟨i, o, jc, hi, hxi, hoth, hc, rfl, c23, hsh, hst0, hst3, rfl, Or.inr ⟨r84, e84, Or.inr ⟨c111, rfl, by rw [← hnkd]; exact hmD, fun k a b c9 d9 e9 f9 => (hr9 k a).trans (hE k a b c9 d9 e9 f9)⟩⟩, _, _, _, _, _, hTD⟩))
                · rw [cg_ge] at c111
                  refine lv_ldc2d hx hb hown (hq _ q721 rfl) dX7_cut_114 ?_
                  rw [hQ]
                  exact vx_ret (k_dret hx hb hr hlocks hW hS (by omega) (by omega) dX7_cut_117 (⟨i, o, jc, hi, hxi, hoth, hc, rfl, c23, hsh, hst0, hst3, rfl, Or.inr ⟨r84, e84, Or.inl ⟨by first | exact c111 | exact Decidable.not_not.mp c111, rfl, hk84⟩⟩, _, _, _, _, _, hT84⟩))
              · try dsimp only at c87
                exact absurd c87 (by decide)
            · refine lv_if_ne (tgt := 94) hx hb dX7_cut_87 (by decide) (fun c87 => ?_) (fun c87 => ?_)
              · try dsimp only at c87
                exact absurd c87 (by decide)
              · try dsimp only at c87
                refine lv_ldc2d hx hb hown (hq _ q720 rfl) dX7_cut_90 ?_
                rw [hQ]
                exact vx_ret (k_dret hx hb hr hlocks hW hS (by omega) (by omega) dX7_cut_93 (⟨i, o, jc, hi, hxi, hoth, hc, rfl, c23, hsh, hst0, hst3, rfl, Or.inl ⟨e84, rfl, hk84⟩, _, _, _, _, _, hT84⟩))
          · try simp only [b2_eq, Decidable.not_not] at c61
            try dsimp only at c61
            have hrf : ¬ mShut M = 0 ∨ ¬ oState (mod M i) = 0 ∨ ∃ i2, o = some i2 ∧ ¬ oState (mod M i2) = 0 := Or.inr (Or.inr ⟨i2, hlo.2.2.2, fun z => c61 (by rw [z]; rfl)⟩)
            rw [hQ]
            exact k_throw G hx hb hlocks (names := ["java/lang/RuntimeException", "java/lang/Exception"]) hown hts hq hI (by decide) (by decide) (gT_in q449 rfl) (gT_in q65 rfl) 22 rfl (fun w hw => hq w (at_65 w hw).1 (at_65 w hw).2) ot_65 hW hS (hL.1.trans hml.symm) hin dX7_cut_64 dX7_cut_67 dX7_cut_68 dX7_cut_70 dX7_cut_73 (by decide) (by decide) (by show _ ≤ (5 : Nat); omega) (by show _ ≤ (30 : Nat); omega) (by omega) (by omega) (by first | exact Or.inr (Or.inl ⟨rfl, ⟨i, hi, hxi⟩, (hoth.elim (fun z => Or.inl z.1) (fun ⟨i9, a9, b9, _⟩ => Or.inr ⟨i9, a9, b9⟩)), ⟨jc, hc, rfl⟩, hbad⟩) | exact Or.inr (Or.inr ⟨rfl, i, o, hi, hxi, hoth, ⟨jc, hc, rfl⟩, c23, hrf⟩))
    · try dsimp only at c23
      have hbad : x = xo := by first | exact c23 | exact Decidable.not_not.mp c23
      rw [hQ]
      exact k_throw G hx hb hlocks (names := ["java/lang/RuntimeException", "java/lang/Exception"]) hown hts hq hI (by decide) (by decide) (gT_in q220 rfl) (gT_in q64 rfl) 21 rfl (fun w hw => hq w (at_54 w hw).1 (at_54 w hw).2) ot_54 hW hS (hL.1.trans hml.symm) hin dX7_cut_26 dX7_cut_29 dX7_cut_30 dX7_cut_32 dX7_cut_35 (by decide) (by decide) (by show _ ≤ (5 : Nat); omega) (by show _ ≤ (30 : Nat); omega) (by omega) (by omega) (by first | exact Or.inr (Or.inl ⟨rfl, ⟨i, hi, hxi⟩, (hoth.elim (fun z => Or.inl z.1) (fun ⟨i9, a9, b9, _⟩ => Or.inr ⟨i9, a9, b9⟩)), ⟨jc, hc, rfl⟩, hbad⟩) | exact Or.inr (Or.inr ⟨rfl, i, o, hi, hxi, hoth, ⟨jc, hc, rfl⟩, c23, hrf⟩))
