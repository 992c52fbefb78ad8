/-! a measure taken again -/
set_option maxHeartbeats 4000000 in
set_option maxRecDepth 100000 in
/-- TailorBench.measure  -/
theorem c_measure {l : Launch} {D : va_G} {cy : Nat → ClassId} {sad : Nat → Nat} {em : Nat} {s0 : State} {a0 : Array Value} (G : kG kSTR l D cy sad em s0 a0) {ad : Nat → Nat} {ct : Nat → Option va_E} {M : tM} (hm : RepC cy ad ct M) (ho : okM M) (x xm xv : Int32) :
    KX l yX7_measure [.code yX7_measure prog_1_method_5_code 6 (some .int)] 7 120 2 12 [.ref (ad 1), .int x, .int xm, .int xv] D s0 ad ct (fun v ad' ct' => ∃ q j mv, q < mP M ∧ x = nI q ∧ j < 4 ∧ xm = nI j ∧ 50 ≤ mv ∧ mv ≤ 200 ∧ xv = nI mv ∧ v = some (.int (nI (mpe M q j))) ∧ ad' = ad ∧ ct' (24 + q) = some (oPer (nI q) (vf_upd (mpe M q) j mv)) ∧ ∀ k, k ≠ 24 + q → ct' k = ct k) (fun E => (E = eIdx ∧ (¬ kIn x (mP M) ∨ ¬ kIn xm 4)) ∨ (E = eArg ∧ kIn x (mP M) ∧ kIn xm 4 ∧ (xv < 50 ∨ 200 < xv))) := by
  refine KX.of G (by decide) (Nat.le_of_ble_eq_true rfl) (Nat.le_of_ble_eq_true rfl) ?_
  intro p e s m args below meth c ls Q hQ X hin hL hW hS
  obtain ⟨hx, hb, hr, hml, hown, hlocks, hts, hq, hK, hI⟩ := X
  have hbn := ho.1
  have hs1 := hm.1
  refine lv_aload_n hx hb dX7_measure_0 rfl (hL.at 0 rfl) ?_
  refine lv_iload_n hx hb dX7_measure_1 rfl (hL.at 1 rfl) ?_
  refine k_callVX (q := (RX7, TX7, 15)) hx hb hml hown hts hK hI hS hW hL.1 (by first | assumption | exact up_s | (rw [up_n (by omega)]; first | assumption | exact up_s | (rw [up_n (by omega)]; first | assumption | exact up_s | (rw [up_n (by omega)]; first | assumption | exact up_s | (rw [up_n (by omega)]; first | assumption | exact up_s | (rw [up_n (by omega)]; first | assumption | exact up_s | (rw [up_n (by omega)]; first | assumption | exact up_s | (rw [up_n (by omega)]; first | assumption | exact up_s | (rw [up_n (by omega)]; first | assumption | exact up_s | (rw [up_n (by omega)]; first | assumption | exact up_s | (rw [up_n (by omega)]; first | assumption | exact up_s | (rw [up_n (by omega)]; first | assumption | exact up_s)))))))))))) rfl (c_personAt G hm ho x) (m5 (gT_in q547 rfl) (gT_in q549 rfl) (gT_in q20 rfl) (gT_in q55 rfl) (gT_in q550 rfl)) rfl (show kpar yX7_personAt 1 from ⟨by decide, by decide, by decide +kernel⟩) ⟨by decide, by decide⟩ (by show _ ≤ (2 : Nat); omega) (by show _ ≤ (12 : Nat); omega) rfl (by decide) dX7_measure_2 (fun E ce q9 H locs hp hW hS hce hcv hcl => ?_) (fun v ad2 ct2 H locs hp hW hS => ?_)
  · rw [hQ]; exact k_out hown hlocks hin hW hS hce hcv hcl (by omega) (by omega) (Or.inl ⟨hp.1, Or.inl hp.2⟩)
  obtain ⟨q, hq9, hxq, rfl, h1, h2⟩ := hp
  rw [h1, h2] at hW
  refine k_ast hx hb hL (i := 4) (by decide) dX7_measure_5 (fun ls hL => ?_)
  have hPE := hm.2.2.2.1 q hq9
  refine lv_iload_n hx hb dX7_measure_7 rfl (hL.at 2 rfl) ?_
  refine lv_iconst (v := 0) hx hb dX7_measure_8 (by decide) ?_
  refine lv_iconst (v := 3) hx hb dX7_measure_9 (by decide) ?_
  refine k_callS hx hb hml hown hts hI hS hW hL.1 (c_isOutside G xm 0 3) (m4 (gT_in q421 rfl) (gT_in q422 rfl) (gT_in q55 rfl) (gT_in q423 rfl)) (show kpar yX7_isOutside 3 from ⟨by decide, by decide, by decide +kernel⟩) ⟨by decide, by decide⟩ (by show _ ≤ (2 : Nat); omega) (by show _ ≤ (12 : Nat); omega) rfl (by decide) dX7_measure_10 (fun v ad10 ct10 H locs hp hW hS => ?_)
  obtain ⟨rfl, h1, h2⟩ := hp
  rw [h1, h2] at hW
  refine lv_if_eq (tgt := 26) hx hb dX7_measure_13 (by decide) (fun c13 => ?_) (fun c13 => ?_)
  · try simp only [b2_eq, Decidable.not_not] at c13
    try dsimp only at c13
    obtain ⟨j, hj, hxj⟩ := kIn_le (n := 3) c13 (by decide)
    refine lv_iload_n hx hb dX7_measure_26 rfl (hL.at 3 rfl) ?_
    refine k_callS hx hb hml hown hts hI hS hW hL.1 (c_isNoMeasure G xv) (m4 (gT_in q514 rfl) (gT_in q515 rfl) (gT_in q55 rfl) (gT_in q516 rfl)) (show kpar yX7_isNoMeasure 1 from ⟨by decide, by decide, by decide +kernel⟩) ⟨by decide, by decide⟩ (by show _ ≤ (2 : Nat); omega) (by show _ ≤ (12 : Nat); omega) rfl (by decide) dX7_measure_27 (fun v ad27 ct27 H locs hp hW hS => ?_)
    obtain ⟨rfl, h1, h2⟩ := hp
    rw [h1, h2] at hW
    refine lv_if_eq (tgt := 43) hx hb dX7_measure_30 (by decide) (fun c30 => ?_) (fun c30 => ?_)
    · try simp only [b2_eq, Decidable.not_not] at c30
      try dsimp only at c30
      obtain ⟨mv, hv50, hv200, hxv⟩ := kIn_btw (a := 50) (b := 200) c30 (by decide)
      subst hxj
      subst hxv
      refine lv_aload hx hb dX7_measure_43 (hL.at 4 rfl) ?_
      refine lv_iload_n hx hb dX7_measure_45 rfl (hL.at 2 rfl) ?_
      refine k_callVN (q := (RX3, TX3, 5)) (host := "TailorBench") hx hb hml hown hts hK hI hS hW hL.1 hPE rfl (c_read G hPE (j := j) hj) (gT_in q352 rfl) (hq _ q553 rfl) (hq _ q75 rfl) (hq _ q350 rfl) (hq _ q6 rfl) (show kpar yX3_read 1 from ⟨by decide, by decide, by decide +kernel⟩) ⟨by decide, by decide⟩ (by show _ ≤ (2 : Nat); omega) (by show _ ≤ (12 : Nat); omega) rfl (by decide) dX7_measure_46 (fun v ad46 ct46 H locs hp hW hS => ?_)
      obtain ⟨rfl, h1, h2⟩ := hp
      rw [h1, h2] at hW
      refine k_ist hx hb hL (i := 5) (by decide) dX7_measure_49 (fun ls hL => ?_)
      refine lv_aload hx hb dX7_measure_51 (hL.at 4 rfl) ?_
      refine lv_iload_n hx hb dX7_measure_53 rfl (hL.at 2 rfl) ?_
      refine lv_iload_n hx hb dX7_measure_54 rfl (hL.at 3 rfl) ?_
      refine k_callVN (q := (RX3, TX3, 5)) (host := "TailorBench") hx hb hml hown hts hK hI hS hW hL.1 hPE rfl (c_write G (by omega) hPE (j := j) hj mv) (gT_in q557 rfl) (hq _ q554 rfl) (hq _ q75 rfl) (hq _ q556 rfl) (hq _ q21 rfl) (show kpar yX3_write 2 from ⟨by decide, by decide, by decide +kernel⟩) ⟨by decide, by decide⟩ (by show _ ≤ (2 : Nat); omega) (by show _ ≤ (12 : Nat); omega) rfl (by decide) dX7_measure_55 (fun v ad55 ct55 H locs hp hW hS => ?_)
      obtain ⟨rfl, h1, hv1, hr1⟩ := hp
      rw [h1] at hW
      refine lv_iload hx hb dX7_measure_58 (hL.at 5 rfl) ?_
      rw [hQ]
      exact vx_ret (k_iret hx hb hr hlocks hW hS (by omega) (by omega) dX7_measure_60 (⟨q, j, mv, hq9, hxq, hj, rfl, hv50, hv200, rfl, rfl, rfl, hv1, hr1⟩))
    · try simp only [b2_eq, Decidable.not_not] at c30
      try dsimp only at c30
      have hbad : xv < 50 ∨ 200 < xv := by first | exact c30 | exact Decidable.not_not.mp c30
      rw [hQ]
      exact k_throw G hx hb hlocks (names := ["java/lang/RuntimeException", "java/lang/Exception"]) hown hts hq hI (by decide) (by decide) (gT_in q220 rfl) (gT_in q64 rfl) 9 rfl (fun w hw => hq w (at_54 w hw).1 (at_54 w hw).2) ot_54 hW hS (hL.1.trans hml.symm) hin dX7_measure_33 dX7_measure_36 dX7_measure_37 dX7_measure_39 dX7_measure_42 (by decide) (by decide) (by show _ ≤ (2 : Nat); omega) (by show _ ≤ (12 : Nat); omega) (by omega) (by omega) (by first | exact Or.inl ⟨rfl, Or.inr hno4⟩ | exact Or.inr ⟨rfl, ⟨q, hq9, hxq⟩, ⟨j, hj, hxj⟩, hbad⟩)
  · try simp only [b2_eq, Decidable.not_not] at c13
    try dsimp only at c13
    have hno4 : ¬ kIn xm 4 := kIn_nle (n := 3) (by first | exact c13 | exact Decidable.not_not.mp c13) (by decide)
    rw [hQ]
    exact k_throw G hx hb hlocks (names := ["java/lang/RuntimeException", "java/lang/Exception"]) hown hts hq hI (by decide) (by decide) (gT_in q300 rfl) (gT_in q72 rfl) 12 rfl (fun w hw => hq w (at_111 w hw).1 (at_111 w hw).2) ot_111 hW hS (hL.1.trans hml.symm) hin dX7_measure_16 dX7_measure_19 dX7_measure_20 dX7_measure_22 dX7_measure_25 (by decide) (by decide) (by show _ ≤ (2 : Nat); omega) (by show _ ≤ (12 : Nat); omega) (by omega) (by omega) (by first | exact Or.inl ⟨rfl, Or.inr hno4⟩ | exact Or.inr ⟨rfl, ⟨q, hq9, hxq⟩, ⟨j, hj, hxj⟩, hbad⟩)
