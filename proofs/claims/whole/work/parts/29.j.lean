/-! the class, called from outside -/
set_option maxHeartbeats 4000000 in
set_option maxRecDepth 100000 in
/-- TailorBench.bell  -/
theorem c_bell {l : Launch} {D : va_G} {cy : Nat → ClassId} {sad : Nat → Nat} {em : Nat} {s0 : State} {a0 : Array Value} (G : kG kSTR l D cy sad em s0 a0) {ad : Nat → Nat} {ct : Nat → Option va_E} {M : tM} (hm : RepC cy ad ct M) (ho : okM M)  :
    KM l yX7_bell [.code yX7_bell prog_1_method_16_code 1 (some .int)] 0 0 0 0 [.ref (ad 1)] D s0 ad ct (fun v ad' ct' => v = some (.int (mRef M + 1)) ∧ ad' = ad ∧ ct' 1 = some (oShop ad (sSh M (mClk M, mPur M, mRef M + 1, mShut M))) ∧ ∀ k, k ≠ 1 → ct' k = ct k) := by
  refine KM.of G (by decide) (Nat.le_of_ble_eq_true rfl) (Nat.le_of_ble_eq_true rfl) ?_
  intro p e s m args below meth c ls Q hQ X hin hL hW hS
  obtain ⟨hx, hb, hr, hml, hown, hlocks, hts, hq, hK, hI⟩ := X
  have hs1 := hm.1
  refine lv_aload_n hx hb dX7_bell_0 rfl (hL.at 0 rfl) ?_
  refine lv_dup hx hb dX7_bell_1 rfl ?_
  refine k_get (ci := 9) (C := RX7) (T := TX7) (N := 15) hx hb hts w_RX7 hown hK hW (by first | assumption | exact up_s | (rw [up_n (by omega)]; first | assumption | exact up_s | (rw [up_n (by omega)]; first | assumption | exact up_s | (rw [up_n (by omega)]; first | assumption | exact up_s | (rw [up_n (by omega)]; first | assumption | exact up_s | (rw [up_n (by omega)]; first | assumption | exact up_s | (rw [up_n (by omega)]; first | assumption | exact up_s | (rw [up_n (by omega)]; first | assumption | exact up_s | (rw [up_n (by omega)]; first | assumption | exact up_s | (rw [up_n (by omega)]; first | assumption | exact up_s | (rw [up_n (by omega)]; first | assumption | exact up_s | (rw [up_n (by omega)]; first | assumption | exact up_s)))))))))))) rfl 13 (by decide) (hq _ q162 rfl) (fun _ h9 => h9) (by rfl) dX7_bell_2 ?_
  refine lv_iconst (v := 1) hx hb dX7_bell_5 (by decide) ?_
  refine lv_iadd hx hb dX7_bell_6 ?_
  refine k_put (ci := 9) (C := RX7) (T := TX7) (N := 15) (ty := tyX7 13) hx hb hts w_RX7 tyX7 tyX7_ok nmX7 hown hK hW hS (by first | assumption | exact up_s | (rw [up_n (by omega)]; first | assumption | exact up_s | (rw [up_n (by omega)]; first | assumption | exact up_s | (rw [up_n (by omega)]; first | assumption | exact up_s | (rw [up_n (by omega)]; first | assumption | exact up_s | (rw [up_n (by omega)]; first | assumption | exact up_s | (rw [up_n (by omega)]; first | assumption | exact up_s | (rw [up_n (by omega)]; first | assumption | exact up_s | (rw [up_n (by omega)]; first | assumption | exact up_s | (rw [up_n (by omega)]; first | assumption | exact up_s | (rw [up_n (by omega)]; first | assumption | exact up_s | (rw [up_n (by omega)]; first | assumption | exact up_s)))))))))))) (by omega) rfl 13 (by decide) (hq _ q162 rfl) (fun _ h9 => h9) rfl (by decide +kernel) rfl rfl (by first | exact Nat.le_of_ble_eq_true rfl | (simp only [List.length_set]; exact Nat.le_of_ble_eq_true rfl)) dX7_bell_7 (fun H locs hW hS => ?_)
  refine lv_aload_n hx hb dX7_bell_10 rfl (hL.at 0 rfl) ?_
  refine k_get (ci := 9) (C := RX7) (T := TX7) (N := 15) hx hb hts w_RX7 hown hK hW (by first | assumption | exact up_s | (rw [up_n (by omega)]; first | assumption | exact up_s | (rw [up_n (by omega)]; first | assumption | exact up_s | (rw [up_n (by omega)]; first | assumption | exact up_s | (rw [up_n (by omega)]; first | assumption | exact up_s | (rw [up_n (by omega)]; first | assumption | exact up_s | (rw [up_n (by omega)]; first | assumption | exact up_s | (rw [up_n (by omega)]; first | assumption | exact up_s | (rw [up_n (by omega)]; first | assumption | exact up_s | (rw [up_n (by omega)]; first | assumption | exact up_s | (rw [up_n (by omega)]; first | assumption | exact up_s | (rw [up_n (by omega)]; first | assumption | exact up_s)))))))))))) rfl 13 (by decide) (hq _ q162 rfl) (fun _ h9 => h9) (by rfl) dX7_bell_11 ?_
  rw [hQ]
  exact k_iret hx hb hr hlocks hW hS (by omega) (by omega) dX7_bell_14 (⟨rfl, rfl, up_s, fun k hk => up_n hk⟩)

set_option maxHeartbeats 4000000 in
set_option maxRecDepth 100000 in
/-- TailorBench.pass  -/
theorem c_pass {l : Launch} {D : va_G} {cy : Nat → ClassId} {sad : Nat → Nat} {em : Nat} {s0 : State} {a0 : Array Value} (G : kG kSTR l D cy sad em s0 a0) {ad : Nat → Nat} {ct : Nat → Option va_E} {M : tM} (hm : RepC cy ad ct M) (ho : okM M) {nb : Nat} (hN : okN nb M) (x : Int32) :
    KX l yX7_pass [.code yX7_pass prog_1_method_14_code 2 (some .double)] 6 90 1 6 [.ref (ad 1), .int x] D s0 ad ct (fun v ad' ct' => ∃ k, 1 ≤ k ∧ k ≤ 100 ∧ x = nI k ∧ v = some (.double (fSpend (mClk M) (FP.i2d (nI k)))) ∧ ad' = ad ∧ ct' 1 = some (oShop ad (sSh M (fSpend (mClk M) (FP.i2d (nI k)), M.2.1.2))) ∧ ∀ k, k ≠ 1 → ct' k = ct k) (fun E => E = eArg ∧ (x < 1 ∨ 100 < x)) := by
  refine KX.of G (by decide) (Nat.le_of_ble_eq_true rfl) (Nat.le_of_ble_eq_true rfl) ?_
  intro p e s m args below meth c ls Q hQ X hin hL hW hS
  obtain ⟨hx, hb, hr, hml, hown, hlocks, hts, hq, hK, hI⟩ := X
  have hs1 := hm.1
  refine lv_iload_n hx hb dX7_pass_0 rfl (hL.at 1 rfl) ?_
  refine lv_iconst (v := 1) hx hb dX7_pass_1 (by decide) ?_
  refine lv_bipush (v := 100) hx hb dX7_pass_2 (by decide) ?_
  refine k_callS hx hb hml hown hts hI hS hW hL.1 (c_isOutside G x 1 100) (m4 (gT_in q421 rfl) (gT_in q422 rfl) (gT_in q55 rfl) (gT_in q423 rfl)) (show kpar yX7_isOutside 3 from ⟨by decide, by decide, by decide +kernel⟩) ⟨by decide, by decide⟩ (by show _ ≤ (1 : Nat); omega) (by show _ ≤ (6 : Nat); omega) rfl (by decide) dX7_pass_4 (fun v ad4 ct4 H locs hp hW hS => ?_)
  obtain ⟨rfl, h1, h2⟩ := hp
  rw [h1, h2] at hW
  refine lv_if_eq (tgt := 21) hx hb dX7_pass_7 (by decide) (fun c7 => ?_) (fun c7 => ?_)
  · try simp only [b2_eq, Decidable.not_not] at c7
    try dsimp only at c7
    obtain ⟨k, hk1, hk2, hxk⟩ := kIn_btw (a := 1) (b := 100) c7 (by decide)
    subst hxk
    have hx0 : vf_n64 (FP.dadd (mClk M) (FP.i2d (nI k))) := vf_of (dP_add hN.2.1 (dP_i2d (by omega)) (by omega)).nn
    refine lv_aload_n hx hb dX7_pass_21 rfl (hL.at 0 rfl) ?_
    refine lv_iload_n hx hb dX7_pass_22 rfl (hL.at 1 rfl) ?_
    refine lv_i2d hx hb dX7_pass_23 ?_
    refine k_callV (q := (RX7, TX7, 15)) hx hb hml hown hts hK hI hS hW hL.1 (by first | assumption | exact up_s | (rw [up_n (by omega)]; first | assumption | exact up_s | (rw [up_n (by omega)]; first | assumption | exact up_s | (rw [up_n (by omega)]; first | assumption | exact up_s | (rw [up_n (by omega)]; first | assumption | exact up_s | (rw [up_n (by omega)]; first | assumption | exact up_s | (rw [up_n (by omega)]; first | assumption | exact up_s | (rw [up_n (by omega)]; first | assumption | exact up_s | (rw [up_n (by omega)]; first | assumption | exact up_s | (rw [up_n (by omega)]; first | assumption | exact up_s | (rw [up_n (by omega)]; first | assumption | exact up_s | (rw [up_n (by omega)]; first | assumption | exact up_s)))))))))))) rfl (c_spend G hm ho _ hx0) (m5 (gT_in q733 rfl) (gT_in q735 rfl) (gT_in q24 rfl) (gT_in q55 rfl) (gT_in q736 rfl)) rfl (show kpar yX7_spend 1 from ⟨by decide, by decide, by decide +kernel⟩) ⟨by decide, by decide⟩ (by show _ ≤ (1 : Nat); omega) (by show _ ≤ (6 : Nat); omega) rfl (by decide) dX7_pass_24 (fun v ad24 ct24 H locs hp hW hS => ?_)
    obtain ⟨rfl, h1, hv1, hr1⟩ := hp
    rw [h1] at hW
    refine lv_aload_n hx hb dX7_pass_27 rfl (hL.at 0 rfl) ?_
    refine k_get (ci := 9) (C := RX7) (T := TX7) (N := 15) hx hb hts w_RX7 hown hK hW (by first | assumption | exact up_s | (rw [up_n (by omega)]; first | assumption | exact up_s | (rw [up_n (by omega)]; first | assumption | exact up_s | (rw [up_n (by omega)]; first | assumption | exact up_s | (rw [up_n (by omega)]; first | assumption | exact up_s | (rw [up_n (by omega)]; first | assumption | exact up_s | (rw [up_n (by omega)]; first | assumption | exact up_s | (rw [up_n (by omega)]; first | assumption | exact up_s | (rw [up_n (by omega)]; first | assumption | exact up_s | (rw [up_n (by omega)]; first | assumption | exact up_s | (rw [up_n (by omega)]; first | assumption | exact up_s | (rw [up_n (by omega)]; first | assumption | exact up_s)))))))))))) rfl 11 (by decide) (hq _ q160 rfl) (fun _ h9 => h9) (by rfl) dX7_pass_28 ?_
    rw [hQ]
    exact vx_ret (k_dret hx hb hr hlocks hW hS (by omega) (by omega) dX7_pass_31 (⟨k, hk1, hk2, rfl, rfl, rfl, hv1, hr1⟩))
  · try simp only [b2_eq, Decidable.not_not] at c7
    try dsimp only at c7
    
    rw [hQ]
    exact k_throwW G hx hb hlocks (names := ["java/lang/RuntimeException", "java/lang/Exception"]) hown hts hq hI (by decide) (by decide) (gT_in q220 rfl) (gT_in q64 rfl) 26 rfl (fun w hw => hq w (at_54 w hw).1 (at_54 w hw).2) ot_54 hW hS (hL.1.trans hml.symm) hin dX7_pass_10 dX7_pass_13 dX7_pass_14 dX7_pass_17 dX7_pass_20 (by decide) (by decide) (by show _ ≤ (1 : Nat); omega) (by show _ ≤ (6 : Nat); omega) (by omega) (by omega) (⟨rfl, by first | exact c7 | exact Decidable.not_not.mp c7⟩)

set_option maxHeartbeats 4000000 in
set_option maxRecDepth 100000 in
/-- TailorBench.wash  -/
theorem c_wash {l : Launch} {D : va_G} {cy : Nat → ClassId} {sad : Nat → Nat} {em : Nat} {s0 : State} {a0 : Array Value} (G : kG kSTR l D cy sad em s0 a0) {ad : Nat → Nat} {ct : Nat → Option va_E} {M : tM} (hm : RepC cy ad ct M) (ho : okM M) {nb : Nat} (hN : okN nb M) (x : Int32) :
    KX l yX7_wash [.code yX7_wash prog_1_method_3_code 5 (some .double)] 7 120 2 12 [.ref (ad 1), .int x] D s0 ad ct (fun v ad' ct' => ∃ jc, jc < mC M ∧ x = nI jc ∧ v = some (.double (fWash (mcl M jc)).2.1) ∧ ad' = ad ∧ ct' (16 + jc) = some (oCl (fWash (mcl M jc))) ∧ ∀ k, k ≠ 16 + jc → ct' k = ct k) (fun E => E = eIdx ∧ ¬ kIn x (mC M)) := by
  refine KX.of G (by decide) (Nat.le_of_ble_eq_true rfl) (Nat.le_of_ble_eq_true rfl) ?_
  intro p e s m args below meth c ls Q hQ X hin hL hW hS
  obtain ⟨hx, hb, hr, hml, hown, hlocks, hts, hq, hK, hI⟩ := X
  have hs1 := hm.1
  refine lv_aload_n hx hb dX7_wash_0 rfl (hL.at 0 rfl) ?_
  refine lv_iload_n hx hb dX7_wash_1 rfl (hL.at 1 rfl) ?_
  refine k_callVX (q := (RX7, TX7, 15)) hx hb hml hown hts hK hI hS hW hL.1 (by first | assumption | exact up_s | (rw [up_n (by omega)]; first | assumption | exact up_s | (rw [up_n (by omega)]; first | assumption | exact up_s | (rw [up_n (by omega)]; first | assumption | exact up_s | (rw [up_n (by omega)]; first | assumption | exact up_s | (rw [up_n (by omega)]; first | assumption | exact up_s | (rw [up_n (by omega)]; first | assumption | exact up_s | (rw [up_n (by omega)]; first | assumption | exact up_s | (rw [up_n (by omega)]; first | assumption | exact up_s | (rw [up_n (by omega)]; first | assumption | exact up_s | (rw [up_n (by omega)]; first | assumption | exact up_s | (rw [up_n (by omega)]; first | assumption | exact up_s)))))))))))) rfl (c_clothAt G hm ho x) (m5 (gT_in q296 rfl) (gT_in q298 rfl) (gT_in q2 rfl) (gT_in q55 rfl) (gT_in q299 rfl)) rfl (show kpar yX7_clothAt 1 from ⟨by decide, by decide, by decide +kernel⟩) ⟨by decide, by decide⟩ (by show _ ≤ (2 : Nat); omega) (by show _ ≤ (12 : Nat); omega) rfl (by decide) dX7_wash_2 (fun E ce q9 H locs hp hW hS hce hcv hcl => ?_) (fun v ad2 ct2 H locs hp hW hS => ?_)
  · rw [hQ]; exact k_out hown hlocks hin hW hS hce hcv hcl (by omega) (by omega) (hp)
  obtain ⟨jc, hc, hxjc, rfl, h1, h2⟩ := hp
  rw [h1, h2] at hW
  refine k_ast_n hx hb hL (i := 2) rfl (by decide) dX7_wash_5 (fun ls hL => ?_)
  have hC := hm.2.2.1 jc hc
  have hk8 := (ho.2.1 jc hc).1
  obtain ⟨hw1, hw2, -⟩ := hN.1 jc hc
  have hlf := dP_left (k := (mcl M jc).2.2.1) (by omega)
  have hm1 : vf_n64 (FP.dmul (mcl M jc).1 (fLeft (mcl M jc).2.2.1)) := vf_of (dP_mul (lo := 0) (hi := 10240) hw1 hlf (by rw [Nat.zero_mul]; exact Nat.zero_le _) (by omega) (by omega)).nn
  have hm2 : vf_n64 (FP.dmul (mcl M jc).2.1 (fLeft (mcl M jc).2.2.1)) := vf_of (dP_mul (lo := 0) (hi := 192000) hw2 hlf (by rw [Nat.zero_mul]; exact Nat.zero_le _) (by omega) (by omega)).nn
  refine lv_aload_n hx hb dX7_wash_6 rfl (hL.at 2 rfl) ?_
  refine k_callVN (q := (RX0, TX0, 6)) (host := "TailorBench") hx hb hml hown hts hK hI hS hW hL.1 (by first | assumption | exact up_s | (rw [up_n (by omega)]; first | assumption | exact up_s | (rw [up_n (by omega)]; first | assumption | exact up_s | (rw [up_n (by omega)]; first | assumption | exact up_s | (rw [up_n (by omega)]; first | assumption | exact up_s | (rw [up_n (by omega)]; first | assumption | exact up_s | (rw [up_n (by omega)]; first | assumption | exact up_s | (rw [up_n (by omega)]; first | assumption | exact up_s | (rw [up_n (by omega)]; first | assumption | exact up_s | (rw [up_n (by omega)]; first | assumption | exact up_s | (rw [up_n (by omega)]; first | assumption | exact up_s | (rw [up_n (by omega)]; first | assumption | exact up_s)))))))))))) rfl (c_left G hC (by omega)) (gT_in q374 rfl) (hq _ q506 rfl) (hq _ q66 rfl) (hq _ q372 rfl) (hq _ q9 rfl) (show kpar yX0_leftByWashing 0 from ⟨by decide, by decide, by decide +kernel⟩) ⟨by decide, by decide⟩ (by show _ ≤ (2 : Nat); omega) (by show _ ≤ (12 : Nat); omega) rfl (by decide) dX7_wash_7 (fun v ad7 ct7 H locs hp hW hS => ?_)
  obtain ⟨rfl, h1, h2⟩ := hp
  rw [h1, h2] at hW
  refine k_dst_n hx hb hL (i := 3) rfl (by decide) dX7_wash_10 (fun ls hL => ?_)
  refine lv_aload_n hx hb dX7_wash_11 rfl (hL.at 2 rfl) ?_
  refine lv_aload_n hx hb dX7_wash_12 rfl (hL.at 2 rfl) ?_
  refine k_getN (ci := 2) (C := RX0) (T := TX0) (N := 6) hx hb hts w_RX0 hown hK hW (by first | assumption | exact up_s | (rw [up_n (by omega)]; first | assumption | exact up_s | (rw [up_n (by omega)]; first | assumption | exact up_s | (rw [up_n (by omega)]; first | assumption | exact up_s | (rw [up_n (by omega)]; first | assumption | exact up_s | (rw [up_n (by omega)]; first | assumption | exact up_s | (rw [up_n (by omega)]; first | assumption | exact up_s | (rw [up_n (by omega)]; first | assumption | exact up_s | (rw [up_n (by omega)]; first | assumption | exact up_s | (rw [up_n (by omega)]; first | assumption | exact up_s | (rw [up_n (by omega)]; first | assumption | exact up_s | (rw [up_n (by omega)]; first | assumption | exact up_s)))))))))))) rfl 3 (by decide) (hq _ q480 rfl) (fun _ h9 => h9) (by rfl) dX7_wash_13 ?_
  refine lv_dload_n hx hb dX7_wash_16 rfl (hL.at 3 rfl) ?_
  refine lv_dmul hx hb dX7_wash_17 hm1 ?_
  refine k_putN (ci := 2) (C := RX0) (T := TX0) (N := 6) (ty := tyX0 3) hx hb hts w_RX0 tyX0 tyX0_ok nmX0 hown hK hW hS (by first | assumption | exact up_s | (rw [up_n (by omega)]; first | assumption | exact up_s | (rw [up_n (by omega)]; first | assumption | exact up_s | (rw [up_n (by omega)]; first | assumption | exact up_s | (rw [up_n (by omega)]; first | assumption | exact up_s | (rw [up_n (by omega)]; first | assumption | exact up_s | (rw [up_n (by omega)]; first | assumption | exact up_s | (rw [up_n (by omega)]; first | assumption | exact up_s | (rw [up_n (by omega)]; first | assumption | exact up_s | (rw [up_n (by omega)]; first | assumption | exact up_s | (rw [up_n (by omega)]; first | assumption | exact up_s | (rw [up_n (by omega)]; first | assumption | exact up_s)))))))))))) (by omega) rfl 3 (by decide) (hq _ q480 rfl) (fun _ h9 => h9) rfl (by decide +kernel) rfl rfl (by first | exact Nat.le_of_ble_eq_true rfl | (simp only [List.length_set]; exact Nat.le_of_ble_eq_true rfl)) dX7_wash_18 (fun H locs hW hS => ?_)
  refine lv_aload_n hx hb dX7_wash_21 rfl (hL.at 2 rfl) ?_
  refine lv_aload_n hx hb dX7_wash_22 rfl (hL.at 2 rfl) ?_
  refine k_getN (ci := 2) (C := RX0) (T := TX0) (N := 6) hx hb hts w_RX0 hown hK hW (by first | assumption | exact up_s | (rw [up_n (by omega)]; first | assumption | exact up_s | (rw [up_n (by omega)]; first | assumption | exact up_s | (rw [up_n (by omega)]; first | assumption | exact up_s | (rw [up_n (by omega)]; first | assumption | exact up_s | (rw [up_n (by omega)]; first | assumption | exact up_s | (rw [up_n (by omega)]; first | assumption | exact up_s | (rw [up_n (by omega)]; first | assumption | exact up_s | (rw [up_n (by omega)]; first | assumption | exact up_s | (rw [up_n (by omega)]; first | assumption | exact up_s | (rw [up_n (by omega)]; first | assumption | exact up_s | (rw [up_n (by omega)]; first | assumption | exact up_s)))))))))))) rfl 4 (by decide) (hq _ q482 rfl) (fun _ h9 => h9) (by rfl) dX7_wash_23 ?_
  refine lv_dload_n hx hb dX7_wash_26 rfl (hL.at 3 rfl) ?_
  refine lv_dmul hx hb dX7_wash_27 hm2 ?_
  refine k_putN (ci := 2) (C := RX0) (T := TX0) (N := 6) (ty := tyX0 4) hx hb hts w_RX0 tyX0 tyX0_ok nmX0 hown hK hW hS (by first | assumption | exact up_s | (rw [up_n (by omega)]; first | assumption | exact up_s | (rw [up_n (by omega)]; first | assumption | exact up_s | (rw [up_n (by omega)]; first | assumption | exact up_s | (rw [up_n (by omega)]; first | assumption | exact up_s | (rw [up_n (by omega)]; first | assumption | exact up_s | (rw [up_n (by omega)]; first | assumption | exact up_s | (rw [up_n (by omega)]; first | assumption | exact up_s | (rw [up_n (by omega)]; first | assumption | exact up_s | (rw [up_n (by omega)]; first | assumption | exact up_s | (rw [up_n (by omega)]; first | assumption | exact up_s | (rw [up_n (by omega)]; first | assumption | exact up_s)))))))))))) (by omega) rfl 4 (by decide) (hq _ q482 rfl) (fun _ h9 => h9) rfl (by decide +kernel) rfl rfl (by first | exact Nat.le_of_ble_eq_true rfl | (simp only [List.length_set]; exact Nat.le_of_ble_eq_true rfl)) dX7_wash_28 (fun H locs hW hS => ?_)
  refine lv_aload_n hx hb dX7_wash_31 rfl (hL.at 2 rfl) ?_
  refine lv_fconst0 hx hb dX7_wash_32 ?_
  refine k_putN (ci := 2) (C := RX0) (T := TX0) (N := 6) (ty := tyX0 5) hx hb hts w_RX0 tyX0 tyX0_ok nmX0 hown hK hW hS (by first | assumption | exact up_s | (rw [up_n (by omega)]; first | assumption | exact up_s | (rw [up_n (by omega)]; first | assumption | exact up_s | (rw [up_n (by omega)]; first | assumption | exact up_s | (rw [up_n (by omega)]; first | assumption | exact up_s | (rw [up_n (by omega)]; first | assumption | exact up_s | (rw [up_n (by omega)]; first | assumption | exact up_s | (rw [up_n (by omega)]; first | assumption | exact up_s | (rw [up_n (by omega)]; first | assumption | exact up_s | (rw [up_n (by omega)]; first | assumption | exact up_s | (rw [up_n (by omega)]; first | assumption | exact up_s | (rw [up_n (by omega)]; first | assumption | exact up_s)))))))))))) (by omega) rfl 5 (by decide) (hq _ q484 rfl) (fun _ h9 => h9) rfl (by decide +kernel) rfl rfl (by first | exact Nat.le_of_ble_eq_true rfl | (simp only [List.length_set]; exact Nat.le_of_ble_eq_true rfl)) dX7_wash_33 (fun H locs hW hS => ?_)
  refine lv_aload_n hx hb dX7_wash_36 rfl (hL.at 2 rfl) ?_
  refine k_getN (ci := 2) (C := RX0) (T := TX0) (N := 6) hx hb hts w_RX0 hown hK hW (by first | assumption | exact up_s | (rw [up_n (by omega)]; first | assumption | exact up_s | (rw [up_n (by omega)]; first | assumption | exact up_s | (rw [up_n (by omega)]; first | assumption | exact up_s | (rw [up_n (by omega)]; first | assumption | exact up_s | (rw [up_n (by omega)]; first | assumption | exact up_s | (rw [up_n (by omega)]; first | assumption | exact up_s | (rw [up_n (by omega)]; first | assumption | exact up_s | (rw [up_n (by omega)]; first | assumption | exact up_s | (rw [up_n (by omega)]; first | assumption | exact up_s | (rw [up_n (by omega)]; first | assumption | exact up_s | (rw [up_n (by omega)]; first | assumption | exact up_s)))))))))))) rfl 4 (by decide) (hq _ q482 rfl) (fun _ h9 => h9) (by rfl) dX7_wash_37 ?_
  rw [hQ]
  exact vx_ret (k_dret hx hb hr hlocks hW hS (by omega) (by omega) dX7_wash_40 (⟨jc, hc, hxjc, rfl, rfl, up_s.trans (by show _ = some ((Sum.inr (2, [Value.int (nI (mcl M jc).2.2.2.1), Value.int (mcl M jc).2.2.2.2.1, Value.int (nI (mcl M jc).2.2.2.2.2), Value.double (FP.dmul (mcl M jc).1 (fLeft (mcl M jc).2.2.1)), Value.double (FP.dmul (mcl M jc).2.1 (fLeft (mcl M jc).2.2.1)), Value.float (fShr 0)]) : va_E)); rw [fShr0]; rfl), fun k hk => (up_n hk).trans ((up_n hk).trans (up_n hk))⟩))

set_option maxHeartbeats 4000000 in
set_option maxRecDepth 100000 in
/-- TailorBench.size  -/
theorem c_qsize {l : Launch} {D : va_G} {cy : Nat → ClassId} {sad : Nat → Nat} {em : Nat} {s0 : State} {a0 : Array Value} (G : kG kSTR l D cy sad em s0 a0) {ad : Nat → Nat} {ct : Nat → Option va_E} {M : tM} (hm : RepC cy ad ct M) (ho : okM M) (x xp xq al : Int32) :
    KX l yX7_size [.code yX7_size prog_1_method_18_code 8 (some .double)] 7 120 2 12 [.ref (ad 1), .int x, .int xp, .int xq, .int al] D s0 ad ct (fun v ad' ct' => ∃ i j q, i < mS M ∧ x = nI i ∧ j < (mst M i).1 ∧ xp = nI j ∧ q < mP M ∧ xq = nI q ∧ v = some (.double (if al = 0 then fBody (mpe M q) ((mst M i).2.1 j) else fTall (mpe M q) ((mst M i).2.1 j))) ∧ ad' = ad ∧ ct' = ct) (fun E => E = eIdx ∧ (¬ kIn x (mS M) ∨ (∃ i, i < mS M ∧ x = nI i ∧ ¬ kIn xp (mst M i).1) ∨ ¬ kIn xq (mP M))) := by
  refine KX.of G (by decide) (Nat.le_of_ble_eq_true rfl) (Nat.le_of_ble_eq_true rfl) ?_
  intro p e s m args below meth c ls Q hQ X hin hL hW hS
  obtain ⟨hx, hb, hr, hml, hown, hlocks, hts, hq, hK, hI⟩ := X
  have hbn := ho.1
  have hs1 := hm.1
  refine lv_aload_n hx hb dX7_size_0 rfl (hL.at 0 rfl) ?_
  refine lv_iload_n hx hb dX7_size_1 rfl (hL.at 1 rfl) ?_
  refine k_callVX (q := (RX7, TX7, 15)) hx hb hml hown hts hK hI hS hW hL.1 (by first | assumption | exact up_s | (rw [up_n (by omega)]; first | assumption | exact up_s | (rw [up_n (by omega)]; first | assumption | exact up_s | (rw [up_n (by omega)]; first | assumption | exact up_s | (rw [up_n (by omega)]; first | assumption | exact up_s | (rw [up_n (by omega)]; first | assumption | exact up_s | (rw [up_n (by omega)]; first | assumption | exact up_s | (rw [up_n (by omega)]; first | assumption | exact up_s | (rw [up_n (by omega)]; first | assumption | exact up_s | (rw [up_n (by omega)]; first | assumption | exact up_s | (rw [up_n (by omega)]; first | assumption | exact up_s | (rw [up_n (by omega)]; first | assumption | exact up_s)))))))))))) rfl (c_styleAt G hm ho x) (m5 (gT_in q602 rfl) (gT_in q604 rfl) (gT_in q22 rfl) (gT_in q55 rfl) (gT_in q605 rfl)) rfl (show kpar yX7_styleAt 1 from ⟨by decide, by decide, by decide +kernel⟩) ⟨by decide, by decide⟩ (by show _ ≤ (2 : Nat); omega) (by show _ ≤ (12 : Nat); omega) rfl (by decide) dX7_size_2 (fun E ce q9 H locs hp hW hS hce hcv hcl => ?_) (fun v ad2 ct2 H locs hp hW hS => ?_)
  · rw [hQ]; exact k_out hown hlocks hin hW hS hce hcv hcl (by omega) (by omega) (⟨hp.1, Or.inl hp.2⟩)
  obtain ⟨i, hi, hxi, rfl, h1, h2⟩ := hp
  rw [h1, h2] at hW
  refine k_ast hx hb hL (i := 5) (by decide) dX7_size_5 (fun ls hL => ?_)
  have hST := hm.2.2.2.2.1 i hi
  have hSA := hm.2.2.2.2.2.1 i hi
  have ho5 := (ho.2.2.2.1 i hi).1
  refine lv_iload_n hx hb dX7_size_7 rfl (hL.at 2 rfl) ?_
  refine lv_if_lt (tgt := 20) hx hb dX7_size_8 (by decide) (fun c8 => ?_) (fun c8 => ?_)
  · try dsimp only at c8
    rw [hQ]
    exact k_throwW G hx hb hlocks (names := ["java/lang/RuntimeException", "java/lang/Exception"]) hown hts hq hI (by decide) (by decide) (gT_in q300 rfl) (gT_in q72 rfl) 27 rfl (fun w hw => hq w (at_111 w hw).1 (at_111 w hw).2) ot_111 hW hS (hL.1.trans hml.symm) hin dX7_size_20 dX7_size_23 dX7_size_24 dX7_size_27 dX7_size_30 (by decide) (by decide) (by show _ ≤ (2 : Nat); omega) (by show _ ≤ (12 : Nat); omega) (by omega) (by omega) (⟨rfl, Or.inr (Or.inl ⟨i, hi, hxi, by first | exact kIn_neg c8 (by omega) | exact kIn_ge c17 (by omega)⟩)⟩)
  · try dsimp only at c8
    refine lv_iload_n hx hb dX7_size_11 rfl (hL.at 2 rfl) ?_
    refine lv_aload hx hb dX7_size_12 (hL.at 5 rfl) ?_
    refine k_getN (ci := 7) (C := RX5) (T := TX5) (N := 5) hx hb hts w_RX5 hown hK hW (by first | assumption | exact up_s | (rw [up_n (by omega)]; first | assumption | exact up_s | (rw [up_n (by omega)]; first | assumption | exact up_s | (rw [up_n (by omega)]; first | assumption | exact up_s | (rw [up_n (by omega)]; first | assumption | exact up_s | (rw [up_n (by omega)]; first | assumption | exact up_s | (rw [up_n (by omega)]; first | assumption | exact up_s | (rw [up_n (by omega)]; first | assumption | exact up_s | (rw [up_n (by omega)]; first | assumption | exact up_s | (rw [up_n (by omega)]; first | assumption | exact up_s | (rw [up_n (by omega)]; first | assumption | exact up_s | (rw [up_n (by omega)]; first | assumption | exact up_s)))))))))))) rfl 2 (by decide) (hq _ q581 rfl) (fun _ h9 => h9) (by rfl) dX7_size_14 ?_
    refine lv_icmp_lt (tgt := 31) hx hb dX7_size_17 (by decide) (fun c17 => ?_) (fun c17 => ?_)
    · try dsimp only at c17
      obtain ⟨j, hj, hxj⟩ := kIn_of c8 c17 (by omega)
      subst hxj
      have hPC := hm.2.2.2.2.2.2.1 i hi j hj
      have hok4 := (ho.2.2.2.1 i hi).2.2 j hj
      refine lv_aload_n hx hb dX7_size_31 rfl (hL.at 0 rfl) ?_
      refine lv_iload_n hx hb dX7_size_32 rfl (hL.at 3 rfl) ?_
      refine k_callVX (q := (RX7, TX7, 15)) hx hb hml hown hts hK hI hS hW hL.1 (by first | assumption | exact up_s | (rw [up_n (by omega)]; first | assumption | exact up_s | (rw [up_n (by omega)]; first | assumption | exact up_s | (rw [up_n (by omega)]; first | assumption | exact up_s | (rw [up_n (by omega)]; first | assumption | exact up_s | (rw [up_n (by omega)]; first | assumption | exact up_s | (rw [up_n (by omega)]; first | assumption | exact up_s | (rw [up_n (by omega)]; first | assumption | exact up_s | (rw [up_n (by omega)]; first | assumption | exact up_s | (rw [up_n (by omega)]; first | assumption | exact up_s | (rw [up_n (by omega)]; first | assumption | exact up_s | (rw [up_n (by omega)]; first | assumption | exact up_s)))))))))))) rfl (c_personAt G hm ho xq) (m5 (gT_in q547 rfl) (gT_in q549 rfl) (gT_in q20 rfl) (gT_in q55 rfl) (gT_in q550 rfl)) rfl (show kpar yX7_personAt 1 from ⟨by decide, by decide, by decide +kernel⟩) ⟨by decide, by decide⟩ (by show _ ≤ (2 : Nat); omega) (by show _ ≤ (12 : Nat); omega) rfl (by decide) dX7_size_33 (fun E ce q9 H locs hp hW hS hce hcv hcl => ?_) (fun v ad33 ct33 H locs hp hW hS => ?_)
      · rw [hQ]; exact k_out hown hlocks hin hW hS hce hcv hcl (by omega) (by omega) (⟨hp.1, Or.inr (Or.inr hp.2)⟩)
      obtain ⟨q, hq9, hxq, rfl, h1, h2⟩ := hp
      rw [h1, h2] at hW
      refine k_ast hx hb hL (i := 6) (by decide) dX7_size_36 (fun ls hL => ?_)
      refine lv_aload hx hb dX7_size_38 (hL.at 5 rfl) ?_
      refine k_getN (ci := 7) (C := RX5) (T := TX5) (N := 5) hx hb hts w_RX5 hown hK hW (by first | assumption | exact up_s | (rw [up_n (by omega)]; first | assumption | exact up_s | (rw [up_n (by omega)]; first | assumption | exact up_s | (rw [up_n (by omega)]; first | assumption | exact up_s | (rw [up_n (by omega)]; first | assumption | exact up_s | (rw [up_n (by omega)]; first | assumption | exact up_s | (rw [up_n (by omega)]; first | assumption | exact up_s | (rw [up_n (by omega)]; first | assumption | exact up_s | (rw [up_n (by omega)]; first | assumption | exact up_s | (rw [up_n (by omega)]; first | assumption | exact up_s | (rw [up_n (by omega)]; first | assumption | exact up_s | (rw [up_n (by omega)]; first | assumption | exact up_s)))))))))))) rfl 1 (by decide) (hq _ q578 rfl) (fun _ h9 => h9) (by rfl) dX7_size_40 ?_
      refine lv_iload_n hx hb dX7_size_43 rfl (hL.at 2 rfl) ?_
      refine k_aald hx hb hK hW 9 (by first | assumption | exact up_s | (rw [up_n (by omega)]; first | assumption | exact up_s | (rw [up_n (by omega)]; first | assumption | exact up_s | (rw [up_n (by omega)]; first | assumption | exact up_s | (rw [up_n (by omega)]; first | assumption | exact up_s | (rw [up_n (by omega)]; first | assumption | exact up_s | (rw [up_n (by omega)]; first | assumption | exact up_s | (rw [up_n (by omega)]; first | assumption | exact up_s | (rw [up_n (by omega)]; first | assumption | exact up_s | (rw [up_n (by omega)]; first | assumption | exact up_s | (rw [up_n (by omega)]; first | assumption | exact up_s | (rw [up_n (by omega)]; first | assumption | exact up_s)))))))))))) rfl j (by omega) (by omega) rfl (kqs_at hj) dX7_size_44 ?_
      refine k_ast hx hb hL (i := 7) (by decide) dX7_size_45 (fun ls hL => ?_)
      refine lv_iload hx hb dX7_size_47 (hL.at 4 rfl) ?_
      refine lv_if_eq (tgt := 62) hx hb dX7_size_49 (by decide) (fun c49 => ?_) (fun c49 => ?_)
      · try dsimp only at c49
        refine lv_aload hx hb dX7_size_62 (hL.at 7 rfl) ?_
        refine lv_aload hx hb dX7_size_64 (hL.at 6 rfl) ?_
        refine k_callVN (q := (RX4, TX4, 4)) (host := "TailorBench") hx hb hml hown hts hK hI hS hW hL.1 hPC rfl (c_bodyFor G hPC (hm.2.2.2.1 q hq9) (ho.2.2.1 q hq9) hok4) (gT_in q344 rfl) (hq _ q792 rfl) (hq _ q77 rfl) (hq _ q342 rfl) (hq _ q5 rfl) (show kpar yX4_bodyFor 1 from ⟨by decide, by decide, by decide +kernel⟩) ⟨by decide, by decide⟩ (by show _ ≤ (2 : Nat); omega) (by show _ ≤ (12 : Nat); omega) rfl (by decide) dX7_size_66 (fun v ad66 ct66 H locs hp hW hS => ?_)
        obtain ⟨rfl, h1, h2⟩ := hp
        rw [h1, h2] at hW
        rw [hQ]
        exact vx_ret (k_dret hx hb hr hlocks hW hS (by omega) (by omega) dX7_size_69 (⟨i, j, q, hi, hxi, hj, rfl, hq9, hxq, by first | exact (congrArg (fun z => some (Value.double z)) (if_pos c49)).symm | exact (congrArg (fun z => some (Value.double z)) (if_neg c49)).symm, rfl, rfl⟩))
      · try dsimp only at c49
        refine lv_aload hx hb dX7_size_52 (hL.at 7 rfl) ?_
        refine lv_aload hx hb dX7_size_54 (hL.at 6 rfl) ?_
        refine k_callVN (q := (RX4, TX4, 4)) (host := "TailorBench") hx hb hml hown hts hK hI hS hW hL.1 hPC rfl (c_tallFor G hPC (hm.2.2.2.1 q hq9) (ho.2.2.1 q hq9) hok4) (gT_in q380 rfl) (hq _ q791 rfl) (hq _ q77 rfl) (hq _ q379 rfl) (hq _ q10 rfl) (show kpar yX4_tallFor 1 from ⟨by decide, by decide, by decide +kernel⟩) ⟨by decide, by decide⟩ (by show _ ≤ (2 : Nat); omega) (by show _ ≤ (12 : Nat); omega) rfl (by decide) dX7_size_56 (fun v ad56 ct56 H locs hp hW hS => ?_)
        obtain ⟨rfl, h1, h2⟩ := hp
        rw [h1, h2] at hW
        refine lv_goto (tgt := 69) hx hb dX7_size_59 (by decide) ?_
        rw [hQ]
        exact vx_ret (k_dret hx hb hr hlocks hW hS (by omega) (by omega) dX7_size_69 (⟨i, j, q, hi, hxi, hj, rfl, hq9, hxq, by first | exact (congrArg (fun z => some (Value.double z)) (if_pos c49)).symm | exact (congrArg (fun z => some (Value.double z)) (if_neg c49)).symm, rfl, rfl⟩))
    · try dsimp only at c17
      rw [hQ]
      exact k_throwW G hx hb hlocks (names := ["java/lang/RuntimeException", "java/lang/Exception"]) hown hts hq hI (by decide) (by decide) (gT_in q300 rfl) (gT_in q72 rfl) 27 rfl (fun w hw => hq w (at_111 w hw).1 (at_111 w hw).2) ot_111 hW hS (hL.1.trans hml.symm) hin dX7_size_20 dX7_size_23 dX7_size_24 dX7_size_27 dX7_size_30 (by decide) (by decide) (by show _ ≤ (2 : Nat); omega) (by show _ ≤ (12 : Nat); omega) (by omega) (by omega) (⟨rfl, Or.inr (Or.inl ⟨i, hi, hxi, by first | exact kIn_neg c8 (by omega) | exact kIn_ge c17 (by omega)⟩)⟩)
