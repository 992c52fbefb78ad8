/-! what is asked -/
set_option maxHeartbeats 4000000 in
set_option maxRecDepth 100000 in
/-- TailorBench.tight  -/
theorem c_qtight {l : Launch} {D : va_G} {cy : Nat → ClassId} {sad : Nat → Nat} {em : Nat} {s0 : State} {a0 : Array Value} (G : kG kSTR l D cy sad em s0 a0) {ad : Nat → Nat} {ct : Nat → Option va_E} {M : tM} (hm : RepC cy ad ct M) (ho : okM M) (x : Int32) {nb : Nat} (hN : okN nb M) (bt : Bool) :
    KX l yX7_tight [.code yX7_tight prog_1_method_20_code 3 (some .double)] 7 120 2 12 [.ref (ad 1), .int x, .int (if bt then 1 else 0)] D s0 ad ct (fun v ad' ct' => ∃ i, i < mO M ∧ x = nI i ∧ v = some (.double (fTgt M i bt)) ∧ ad' = ad ∧ ct' = ct) (fun E => E = eIdx ∧ ¬ kIn x (mO M)) := by
  refine KX.of G (by decide) (Nat.le_of_ble_eq_true rfl) (Nat.le_of_ble_eq_true rfl) ?_
  intro p e s m args below meth c ls Q hQ X hin hL hW hS
  obtain ⟨hx, hb, hr, hml, hown, hlocks, hts, hq, hK, hI⟩ := X
  have hbn := ho.1
  have hs1 := hm.1
  refine lv_aload_n hx hb dX7_tight_0 rfl (hL.at 0 rfl) ?_
  refine lv_iload_n hx hb dX7_tight_1 rfl (hL.at 1 rfl) ?_
  refine k_callVX (q := (RX7, TX7, 15)) hx hb hml hown hts hK hI hS hW hL.1 (by first | assumption | exact up_s | (rw [up_n (by omega)]; first | assumption | exact up_s | (rw [up_n (by omega)]; first | assumption | exact up_s | (rw [up_n (by omega)]; first | assumption | exact up_s | (rw [up_n (by omega)]; first | assumption | exact up_s | (rw [up_n (by omega)]; first | assumption | exact up_s | (rw [up_n (by omega)]; first | assumption | exact up_s | (rw [up_n (by omega)]; first | assumption | exact up_s | (rw [up_n (by omega)]; first | assumption | exact up_s | (rw [up_n (by omega)]; first | assumption | exact up_s | (rw [up_n (by omega)]; first | assumption | exact up_s | (rw [up_n (by omega)]; first | assumption | exact up_s)))))))))))) rfl (c_orderAt G hm ho x) (m5 (gT_in q325 rfl) (gT_in q327 rfl) (gT_in q3 rfl) (gT_in q55 rfl) (gT_in q328 rfl)) rfl (show kpar yX7_orderAt 1 from ⟨by decide, by decide, by decide +kernel⟩) ⟨by decide, by decide⟩ (by show _ ≤ (2 : Nat); omega) (by show _ ≤ (12 : Nat); omega) rfl (by decide) dX7_tight_2 (fun E ce q9 H locs hp hW hS hce hcv hcl => ?_) (fun v ad2 ct2 H locs hp hW hS => ?_)
  · rw [hQ]; exact k_out hown hlocks hin hW hS hce hcv hcl (by omega) (by omega) (hp)
  obtain ⟨i, hi, hxi, rfl, h1, h2⟩ := hp
  rw [h1, h2] at hW
  refine lv_iload_n hx hb dX7_tight_5 rfl (hL.at 2 rfl) ?_
  refine k_callVN (q := (RX2, TX2, 10)) (host := "TailorBench") hx hb hml hown hts hK hI hS hW hL.1 ((hm.ord ho hi).1) rfl (c_tight G hm ho hi bt (okGap ho hN hi)) (gT_in q339 rfl) (hq _ q335 rfl) (hq _ q80 rfl) (hq _ q337 rfl) (hq _ q4 rfl) (show kpar yX2_tightness 1 from ⟨by decide, by decide, by decide +kernel⟩) ⟨by decide, by decide⟩ (by show _ ≤ (2 : Nat); omega) (by show _ ≤ (12 : Nat); omega) rfl (by decide) dX7_tight_6 (fun v ad6 ct6 H locs hp hW hS => ?_)
  obtain ⟨rfl, h1, h2⟩ := hp
  rw [h1, h2] at hW
  rw [hQ]
  exact vx_ret (k_dret hx hb hr hlocks hW hS (by omega) (by omega) dX7_tight_9 (⟨i, hi, hxi, rfl, rfl, rfl⟩))

set_option maxHeartbeats 4000000 in
set_option maxRecDepth 100000 in
/-- TailorBench.tight  -/
theorem c_qtightM {l : Launch} {D : va_G} {cy : Nat → ClassId} {sad : Nat → Nat} {em : Nat} {s0 : State} {a0 : Array Value} (G : kG kSTR l D cy sad em s0 a0) {ad : Nat → Nat} {ct : Nat → Option va_E} {M : tM} (hm : RepC cy ad ct M) (ho : okM M) {i : Nat} (hi : i < mO M) {nb : Nat} (hN : okN nb M) (bt : Bool) :
    KM l yX7_tight [.code yX7_tight prog_1_method_20_code 3 (some .double)] 4 90 0 0 [.ref (ad 1), .int (nI i), .int (if bt then 1 else 0)] D s0 ad ct (fun v ad' ct' => v = some (.double (fTgt M i bt)) ∧ ad' = ad ∧ ct' = ct) := by
  refine KM.of G (by decide) (Nat.le_of_ble_eq_true rfl) (Nat.le_of_ble_eq_true rfl) ?_
  intro p e s m args below meth c ls Q hQ X hin hL hW hS
  obtain ⟨hx, hb, hr, hml, hown, hlocks, hts, hq, hK, hI⟩ := X
  have hbn := ho.1
  have hs1 := hm.1
  refine lv_aload_n hx hb dX7_tight_0 rfl (hL.at 0 rfl) ?_
  refine lv_iload_n hx hb dX7_tight_1 rfl (hL.at 1 rfl) ?_
  refine k_callV (q := (RX7, TX7, 15)) hx hb hml hown hts hK hI hS hW hL.1 (by first | assumption | exact up_s | (rw [up_n (by omega)]; first | assumption | exact up_s | (rw [up_n (by omega)]; first | assumption | exact up_s | (rw [up_n (by omega)]; first | assumption | exact up_s | (rw [up_n (by omega)]; first | assumption | exact up_s | (rw [up_n (by omega)]; first | assumption | exact up_s | (rw [up_n (by omega)]; first | assumption | exact up_s | (rw [up_n (by omega)]; first | assumption | exact up_s | (rw [up_n (by omega)]; first | assumption | exact up_s | (rw [up_n (by omega)]; first | assumption | exact up_s | (rw [up_n (by omega)]; first | assumption | exact up_s | (rw [up_n (by omega)]; first | assumption | exact up_s)))))))))))) rfl (c_orderAtM G hm ho (x := nI i) ⟨i, hi, rfl⟩) (m5 (gT_in q325 rfl) (gT_in q327 rfl) (gT_in q3 rfl) (gT_in q55 rfl) (gT_in q328 rfl)) rfl (show kpar yX7_orderAt 1 from ⟨by decide, by decide, by decide +kernel⟩) ⟨by decide, by decide⟩ (by show _ ≤ (0 : Nat); omega) (by show _ ≤ (0 : Nat); omega) rfl (by decide) dX7_tight_2 (fun v ad2 ct2 H locs hp hW hS => ?_)
  obtain ⟨z9, hz9, hzj, rfl, h1, h2⟩ := hp
  obtain rfl : i = z9 := (nI_eq (by omega) (by omega)).mp hzj
  rw [h1, h2] at hW
  refine lv_iload_n hx hb dX7_tight_5 rfl (hL.at 2 rfl) ?_
  refine k_callVN (q := (RX2, TX2, 10)) (host := "TailorBench") hx hb hml hown hts hK hI hS hW hL.1 ((hm.ord ho hi).1) rfl (c_tight G hm ho hi bt (okGap ho hN hi)) (gT_in q339 rfl) (hq _ q335 rfl) (hq _ q80 rfl) (hq _ q337 rfl) (hq _ q4 rfl) (show kpar yX2_tightness 1 from ⟨by decide, by decide, by decide +kernel⟩) ⟨by decide, by decide⟩ (by show _ ≤ (0 : Nat); omega) (by show _ ≤ (0 : Nat); omega) rfl (by decide) dX7_tight_6 (fun v ad6 ct6 H locs hp hW hS => ?_)
  obtain ⟨rfl, h1, h2⟩ := hp
  rw [h1, h2] at hW
  rw [hQ]
  exact k_dret hx hb hr hlocks hW hS (by omega) (by omega) dX7_tight_9 (⟨rfl, rfl, rfl⟩)

set_option maxHeartbeats 4000000 in
set_option maxRecDepth 100000 in
/-- TailorBench.ready  -/
theorem c_qready {l : Launch} {D : va_G} {cy : Nat → ClassId} {sad : Nat → Nat} {em : Nat} {s0 : State} {a0 : Array Value} (G : kG kSTR l D cy sad em s0 a0) {ad : Nat → Nat} {ct : Nat → Option va_E} {M : tM} (hm : RepC cy ad ct M) (ho : okM M) (x : Int32)  :
    KX l yX7_ready [.code yX7_ready prog_1_method_21_code 2 (some .double)] 7 120 2 12 [.ref (ad 1), .int x] D s0 ad ct (fun v ad' ct' => ∃ i, i < mO M ∧ x = nI i ∧ v = some (.double (oReady (mod M i))) ∧ ad' = ad ∧ ct' = ct) (fun E => E = eIdx ∧ ¬ kIn x (mO M)) := by
  refine KX.of G (by decide) (Nat.le_of_ble_eq_true rfl) (Nat.le_of_ble_eq_true rfl) ?_
  intro p e s m args below meth c ls Q hQ X hin hL hW hS
  obtain ⟨hx, hb, hr, hml, hown, hlocks, hts, hq, hK, hI⟩ := X
  have hbn := ho.1
  have hs1 := hm.1
  refine lv_aload_n hx hb dX7_ready_0 rfl (hL.at 0 rfl) ?_
  refine lv_iload_n hx hb dX7_ready_1 rfl (hL.at 1 rfl) ?_
  refine k_callVX (q := (RX7, TX7, 15)) hx hb hml hown hts hK hI hS hW hL.1 (by first | assumption | exact up_s | (rw [up_n (by omega)]; first | assumption | exact up_s | (rw [up_n (by omega)]; first | assumption | exact up_s | (rw [up_n (by omega)]; first | assumption | exact up_s | (rw [up_n (by omega)]; first | assumption | exact up_s | (rw [up_n (by omega)]; first | assumption | exact up_s | (rw [up_n (by omega)]; first | assumption | exact up_s | (rw [up_n (by omega)]; first | assumption | exact up_s | (rw [up_n (by omega)]; first | assumption | exact up_s | (rw [up_n (by omega)]; first | assumption | exact up_s | (rw [up_n (by omega)]; first | assumption | exact up_s | (rw [up_n (by omega)]; first | assumption | exact up_s)))))))))))) rfl (c_orderAt G hm ho x) (m5 (gT_in q325 rfl) (gT_in q327 rfl) (gT_in q3 rfl) (gT_in q55 rfl) (gT_in q328 rfl)) rfl (show kpar yX7_orderAt 1 from ⟨by decide, by decide, by decide +kernel⟩) ⟨by decide, by decide⟩ (by show _ ≤ (2 : Nat); omega) (by show _ ≤ (12 : Nat); omega) rfl (by decide) dX7_ready_2 (fun E ce q9 H locs hp hW hS hce hcv hcl => ?_) (fun v ad2 ct2 H locs hp hW hS => ?_)
  · rw [hQ]; exact k_out hown hlocks hin hW hS hce hcv hcl (by omega) (by omega) (hp)
  obtain ⟨i, hi, hxi, rfl, h1, h2⟩ := hp
  rw [h1, h2] at hW
  refine k_getN (ci := 4) (C := RX2) (T := TX2) (N := 10) hx hb hts w_RX2 hown hK hW ((hm.ord ho hi).1) rfl 8 (by decide) (hq _ q687 rfl) (fun _ h9 => h9) (by rfl) dX7_ready_5 ?_
  rw [hQ]
  exact vx_ret (k_dret hx hb hr hlocks hW hS (by omega) (by omega) dX7_ready_8 (⟨i, hi, hxi, rfl, rfl, rfl⟩))

set_option maxHeartbeats 4000000 in
set_option maxRecDepth 100000 in
/-- TailorBench.ready  -/
theorem c_qreadyM {l : Launch} {D : va_G} {cy : Nat → ClassId} {sad : Nat → Nat} {em : Nat} {s0 : State} {a0 : Array Value} (G : kG kSTR l D cy sad em s0 a0) {ad : Nat → Nat} {ct : Nat → Option va_E} {M : tM} (hm : RepC cy ad ct M) (ho : okM M) {i : Nat} (hi : i < mO M)  :
    KM l yX7_ready [.code yX7_ready prog_1_method_21_code 2 (some .double)] 1 30 0 0 [.ref (ad 1), .int (nI i)] D s0 ad ct (fun v ad' ct' => v = some (.double (oReady (mod M i))) ∧ ad' = ad ∧ ct' = ct) := by
  refine KM.of G (by decide) (Nat.le_of_ble_eq_true rfl) (Nat.le_of_ble_eq_true rfl) ?_
  intro p e s m args below meth c ls Q hQ X hin hL hW hS
  obtain ⟨hx, hb, hr, hml, hown, hlocks, hts, hq, hK, hI⟩ := X
  have hbn := ho.1
  have hs1 := hm.1
  refine lv_aload_n hx hb dX7_ready_0 rfl (hL.at 0 rfl) ?_
  refine lv_iload_n hx hb dX7_ready_1 rfl (hL.at 1 rfl) ?_
  refine k_callV (q := (RX7, TX7, 15)) hx hb hml hown hts hK hI hS hW hL.1 (by first | assumption | exact up_s | (rw [up_n (by omega)]; first | assumption | exact up_s | (rw [up_n (by omega)]; first | assumption | exact up_s | (rw [up_n (by omega)]; first | assumption | exact up_s | (rw [up_n (by omega)]; first | assumption | exact up_s | (rw [up_n (by omega)]; first | assumption | exact up_s | (rw [up_n (by omega)]; first | assumption | exact up_s | (rw [up_n (by omega)]; first | assumption | exact up_s | (rw [up_n (by omega)]; first | assumption | exact up_s | (rw [up_n (by omega)]; first | assumption | exact up_s | (rw [up_n (by omega)]; first | assumption | exact up_s | (rw [up_n (by omega)]; first | assumption | exact up_s)))))))))))) rfl (c_orderAtM G hm ho (x := nI i) ⟨i, hi, rfl⟩) (m5 (gT_in q325 rfl) (gT_in q327 rfl) (gT_in q3 rfl) (gT_in q55 rfl) (gT_in q328 rfl)) rfl (show kpar yX7_orderAt 1 from ⟨by decide, by decide, by decide +kernel⟩) ⟨by decide, by decide⟩ (by show _ ≤ (0 : Nat); omega) (by show _ ≤ (0 : Nat); omega) rfl (by decide) dX7_ready_2 (fun v ad2 ct2 H locs hp hW hS => ?_)
  obtain ⟨z9, hz9, hzj, rfl, h1, h2⟩ := hp
  obtain rfl : i = z9 := (nI_eq (by omega) (by omega)).mp hzj
  rw [h1, h2] at hW
  refine k_getN (ci := 4) (C := RX2) (T := TX2) (N := 10) hx hb hts w_RX2 hown hK hW ((hm.ord ho hi).1) rfl 8 (by decide) (hq _ q687 rfl) (fun _ h9 => h9) (by rfl) dX7_ready_5 ?_
  rw [hQ]
  exact k_dret hx hb hr hlocks hW hS (by omega) (by omega) dX7_ready_8 (⟨rfl, rfl, rfl⟩)

set_option maxHeartbeats 4000000 in
set_option maxRecDepth 100000 in
/-- TailorBench.free  -/
theorem c_qfree {l : Launch} {D : va_G} {cy : Nat → ClassId} {sad : Nat → Nat} {em : Nat} {s0 : State} {a0 : Array Value} (G : kG kSTR l D cy sad em s0 a0) {ad : Nat → Nat} {ct : Nat → Option va_E} {M : tM} (hm : RepC cy ad ct M) (ho : okM M) (x : Int32)  :
    KX l yX7_free [.code yX7_free prog_1_method_22_code 2 (some .double)] 7 120 2 12 [.ref (ad 1), .int x] D s0 ad ct (fun v ad' ct' => ∃ i, i < mH M ∧ x = nI i ∧ v = some (.double (mha M i).2) ∧ ad' = ad ∧ ct' = ct) (fun E => E = eIdx ∧ ¬ kIn x (mH M)) := by
  refine KX.of G (by decide) (Nat.le_of_ble_eq_true rfl) (Nat.le_of_ble_eq_true rfl) ?_
  intro p e s m args below meth c ls Q hQ X hin hL hW hS
  obtain ⟨hx, hb, hr, hml, hown, hlocks, hts, hq, hK, hI⟩ := X
  have hbn := ho.1
  have hs1 := hm.1
  refine lv_aload_n hx hb dX7_free_0 rfl (hL.at 0 rfl) ?_
  refine lv_iload_n hx hb dX7_free_1 rfl (hL.at 1 rfl) ?_
  refine k_callVX (q := (RX7, TX7, 15)) hx hb hml hown hts hK hI hS hW hL.1 (by first | assumption | exact up_s | (rw [up_n (by omega)]; first | assumption | exact up_s | (rw [up_n (by omega)]; first | assumption | exact up_s | (rw [up_n (by omega)]; first | assumption | exact up_s | (rw [up_n (by omega)]; first | assumption | exact up_s | (rw [up_n (by omega)]; first | assumption | exact up_s | (rw [up_n (by omega)]; first | assumption | exact up_s | (rw [up_n (by omega)]; first | assumption | exact up_s | (rw [up_n (by omega)]; first | assumption | exact up_s | (rw [up_n (by omega)]; first | assumption | exact up_s | (rw [up_n (by omega)]; first | assumption | exact up_s | (rw [up_n (by omega)]; first | assumption | exact up_s)))))))))))) rfl (c_handAt G hm ho x) (m5 (gT_in q434 rfl) (gT_in q436 rfl) (gT_in q19 rfl) (gT_in q55 rfl) (gT_in q437 rfl)) rfl (show kpar yX7_handAt 1 from ⟨by decide, by decide, by decide +kernel⟩) ⟨by decide, by decide⟩ (by show _ ≤ (2 : Nat); omega) (by show _ ≤ (12 : Nat); omega) rfl (by decide) dX7_free_2 (fun E ce q9 H locs hp hW hS hce hcv hcl => ?_) (fun v ad2 ct2 H locs hp hW hS => ?_)
  · rw [hQ]; exact k_out hown hlocks hin hW hS hce hcv hcl (by omega) (by omega) (hp)
  obtain ⟨i, hi, hxi, rfl, h1, h2⟩ := hp
  rw [h1, h2] at hW
  refine k_getN (ci := 3) (C := RX1) (T := TX1) (N := 2) hx hb hts w_RX1 hown hK hW (hm.2.2.2.2.2.2.2.1 i hi) rfl 1 (by decide) (hq _ q649 rfl) (fun _ h9 => h9) (by rfl) dX7_free_5 ?_
  rw [hQ]
  exact vx_ret (k_dret hx hb hr hlocks hW hS (by omega) (by omega) dX7_free_8 (⟨i, hi, hxi, rfl, rfl, rfl⟩))

set_option maxHeartbeats 4000000 in
set_option maxRecDepth 100000 in
/-- TailorBench.free  -/
theorem c_qfreeM {l : Launch} {D : va_G} {cy : Nat → ClassId} {sad : Nat → Nat} {em : Nat} {s0 : State} {a0 : Array Value} (G : kG kSTR l D cy sad em s0 a0) {ad : Nat → Nat} {ct : Nat → Option va_E} {M : tM} (hm : RepC cy ad ct M) (ho : okM M) {i : Nat} (hi : i < mH M)  :
    KM l yX7_free [.code yX7_free prog_1_method_22_code 2 (some .double)] 1 30 0 0 [.ref (ad 1), .int (nI i)] D s0 ad ct (fun v ad' ct' => v = some (.double (mha M i).2) ∧ ad' = ad ∧ ct' = ct) := by
  refine KM.of G (by decide) (Nat.le_of_ble_eq_true rfl) (Nat.le_of_ble_eq_true rfl) ?_
  intro p e s m args below meth c ls Q hQ X hin hL hW hS
  obtain ⟨hx, hb, hr, hml, hown, hlocks, hts, hq, hK, hI⟩ := X
  have hbn := ho.1
  have hs1 := hm.1
  refine lv_aload_n hx hb dX7_free_0 rfl (hL.at 0 rfl) ?_
  refine lv_iload_n hx hb dX7_free_1 rfl (hL.at 1 rfl) ?_
  refine k_callV (q := (RX7, TX7, 15)) hx hb hml hown hts hK hI hS hW hL.1 (by first | assumption | exact up_s | (rw [up_n (by omega)]; first | assumption | exact up_s | (rw [up_n (by omega)]; first | assumption | exact up_s | (rw [up_n (by omega)]; first | assumption | exact up_s | (rw [up_n (by omega)]; first | assumption | exact up_s | (rw [up_n (by omega)]; first | assumption | exact up_s | (rw [up_n (by omega)]; first | assumption | exact up_s | (rw [up_n (by omega)]; first | assumption | exact up_s | (rw [up_n (by omega)]; first | assumption | exact up_s | (rw [up_n (by omega)]; first | assumption | exact up_s | (rw [up_n (by omega)]; first | assumption | exact up_s | (rw [up_n (by omega)]; first | assumption | exact up_s)))))))))))) rfl (c_handAtM G hm ho (x := nI i) ⟨i, hi, rfl⟩) (m5 (gT_in q434 rfl) (gT_in q436 rfl) (gT_in q19 rfl) (gT_in q55 rfl) (gT_in q437 rfl)) rfl (show kpar yX7_handAt 1 from ⟨by decide, by decide, by decide +kernel⟩) ⟨by decide, by decide⟩ (by show _ ≤ (0 : Nat); omega) (by show _ ≤ (0 : Nat); omega) rfl (by decide) dX7_free_2 (fun v ad2 ct2 H locs hp hW hS => ?_)
  obtain ⟨z9, hz9, hzj, rfl, h1, h2⟩ := hp
  obtain rfl : i = z9 := (nI_eq (by omega) (by omega)).mp hzj
  rw [h1, h2] at hW
  refine k_getN (ci := 3) (C := RX1) (T := TX1) (N := 2) hx hb hts w_RX1 hown hK hW (hm.2.2.2.2.2.2.2.1 i hi) rfl 1 (by decide) (hq _ q649 rfl) (fun _ h9 => h9) (by rfl) dX7_free_5 ?_
  rw [hQ]
  exact k_dret hx hb hr hlocks hW hS (by omega) (by omega) dX7_free_8 (⟨rfl, rfl, rfl⟩)

set_option maxHeartbeats 4000000 in
set_option maxRecDepth 100000 in
/-- TailorBench.clock  -/
theorem c_qclock {l : Launch} {D : va_G} {cy : Nat → ClassId} {sad : Nat → Nat} {em : Nat} {s0 : State} {a0 : Array Value} (G : kG kSTR l D cy sad em s0 a0) {ad : Nat → Nat} {ct : Nat → Option va_E} {M : tM} (hm : RepC cy ad ct M) (ho : okM M)  :
    KM l yX7_clock [.code yX7_clock prog_1_method_23_code 1 (some .double)] 0 0 0 0 [.ref (ad 1)] D s0 ad ct (fun v ad' ct' => v = some (.double (mClk M)) ∧ ad' = ad ∧ ct' = ct) := by
  refine KM.of G (by decide) (Nat.le_of_ble_eq_true rfl) (Nat.le_of_ble_eq_true rfl) ?_
  intro p e s m args below meth c ls Q hQ X hin hL hW hS
  obtain ⟨hx, hb, hr, hml, hown, hlocks, hts, hq, hK, hI⟩ := X
  have hs1 := hm.1
  refine lv_aload_n hx hb dX7_clock_0 rfl (hL.at 0 rfl) ?_
  refine k_get (ci := 9) (C := RX7) (T := TX7) (N := 15) hx hb hts w_RX7 hown hK hW (by first | assumption | exact up_s | (rw [up_n (by omega)]; first | assumption | exact up_s | (rw [up_n (by omega)]; first | assumption | exact up_s | (rw [up_n (by omega)]; first | assumption | exact up_s | (rw [up_n (by omega)]; first | assumption | exact up_s | (rw [up_n (by omega)]; first | assumption | exact up_s | (rw [up_n (by omega)]; first | assumption | exact up_s | (rw [up_n (by omega)]; first | assumption | exact up_s | (rw [up_n (by omega)]; first | assumption | exact up_s | (rw [up_n (by omega)]; first | assumption | exact up_s | (rw [up_n (by omega)]; first | assumption | exact up_s | (rw [up_n (by omega)]; first | assumption | exact up_s)))))))))))) rfl 11 (by decide) (hq _ q160 rfl) (fun _ h9 => h9) (by rfl) dX7_clock_1 ?_
  rw [hQ]
  exact k_dret hx hb hr hlocks hW hS (by omega) (by omega) dX7_clock_4 (⟨rfl, rfl, rfl⟩)

set_option maxHeartbeats 4000000 in
set_option maxRecDepth 100000 in
/-- TailorBench.ofCloth  -/
theorem c_qofCloth {l : Launch} {D : va_G} {cy : Nat → ClassId} {sad : Nat → Nat} {em : Nat} {s0 : State} {a0 : Array Value} (G : kG kSTR l D cy sad em s0 a0) {ad : Nat → Nat} {ct : Nat → Option va_E} {M : tM} (hm : RepC cy ad ct M) (ho : okM M) (x wh : Int32) :
    KX l yX7_ofCloth [.code yX7_ofCloth prog_1_method_17_code 4 (some .double)] 7 120 2 12 [.ref (ad 1), .int x, .int wh] D s0 ad ct (fun v ad' ct' => ∃ jc wk, jc < mC M ∧ x = nI jc ∧ wk < 6 ∧ wh = nI wk ∧ v = some (.double (fOC (mcl M jc) wk)) ∧ ad' = ad ∧ ct' = ct) (fun E => (E = eIdx ∧ ¬ kIn x (mC M)) ∨ (E = eArg ∧ kIn x (mC M) ∧ ¬ kIn wh 6)) := by
  refine KX.of G (by decide) (Nat.le_of_ble_eq_true rfl) (Nat.le_of_ble_eq_true rfl) ?_
  intro p e s m args below meth c ls Q hQ X hin hL hW hS
  obtain ⟨hx, hb, hr, hml, hown, hlocks, hts, hq, hK, hI⟩ := X
  have hbn := ho.1
  have hs1 := hm.1
  refine lv_aload_n hx hb dX7_ofCloth_0 rfl (hL.at 0 rfl) ?_
  refine lv_iload_n hx hb dX7_ofCloth_1 rfl (hL.at 1 rfl) ?_
  refine k_callVX (q := (RX7, TX7, 15)) hx hb hml hown hts hK hI hS hW hL.1 (by first | assumption | exact up_s | (rw [up_n (by omega)]; first | assumption | exact up_s | (rw [up_n (by omega)]; first | assumption | exact up_s | (rw [up_n (by omega)]; first | assumption | exact up_s | (rw [up_n (by omega)]; first | assumption | exact up_s | (rw [up_n (by omega)]; first | assumption | exact up_s | (rw [up_n (by omega)]; first | assumption | exact up_s | (rw [up_n (by omega)]; first | assumption | exact up_s | (rw [up_n (by omega)]; first | assumption | exact up_s | (rw [up_n (by omega)]; first | assumption | exact up_s | (rw [up_n (by omega)]; first | assumption | exact up_s | (rw [up_n (by omega)]; first | assumption | exact up_s)))))))))))) rfl (c_clothAt G hm ho x) (m5 (gT_in q296 rfl) (gT_in q298 rfl) (gT_in q2 rfl) (gT_in q55 rfl) (gT_in q299 rfl)) rfl (show kpar yX7_clothAt 1 from ⟨by decide, by decide, by decide +kernel⟩) ⟨by decide, by decide⟩ (by show _ ≤ (2 : Nat); omega) (by show _ ≤ (12 : Nat); omega) rfl (by decide) dX7_ofCloth_2 (fun E ce q9 H locs hp hW hS hce hcv hcl => ?_) (fun v ad2 ct2 H locs hp hW hS => ?_)
  · rw [hQ]; exact k_out hown hlocks hin hW hS hce hcv hcl (by omega) (by omega) (Or.inl hp)
  obtain ⟨jc, hc, hxjc, rfl, h1, h2⟩ := hp
  rw [h1, h2] at hW
  refine k_ast_n hx hb hL (i := 3) rfl (by decide) dX7_ofCloth_5 (fun ls hL => ?_)
  have hC := hm.2.2.1 jc hc
  have hk8 := (ho.2.1 jc hc).1
  refine lv_iload_n hx hb dX7_ofCloth_6 rfl (hL.at 2 rfl) ?_
  rcases (tsw6 wh) with rfl | rfl | rfl | rfl | rfl | rfl | hout7
  · refine lv_tableIn (tgt := 44) hx hb dX7_ofCloth_7 (by decide) (by decide) rfl (by decide) ?_
    refine lv_aload_n hx hb dX7_ofCloth_44 rfl (hL.at 3 rfl) ?_
    refine k_getN (ci := 2) (C := RX0) (T := TX0) (N := 6) hx hb hts w_RX0 hown hK hW (by first | assumption | exact up_s | (rw [up_n (by omega)]; first | assumption | exact up_s | (rw [up_n (by omega)]; first | assumption | exact up_s | (rw [up_n (by omega)]; first | assumption | exact up_s | (rw [up_n (by omega)]; first | assumption | exact up_s | (rw [up_n (by omega)]; first | assumption | exact up_s | (rw [up_n (by omega)]; first | assumption | exact up_s | (rw [up_n (by omega)]; first | assumption | exact up_s | (rw [up_n (by omega)]; first | assumption | exact up_s | (rw [up_n (by omega)]; first | assumption | exact up_s | (rw [up_n (by omega)]; first | assumption | exact up_s | (rw [up_n (by omega)]; first | assumption | exact up_s)))))))))))) rfl 3 (by decide) (hq _ q480 rfl) (fun _ h9 => h9) (by rfl) dX7_ofCloth_45 ?_
    rw [hQ]
    exact vx_ret (k_dret hx hb hr hlocks hW hS (by omega) (by omega) dX7_ofCloth_48 (⟨jc, 0, hc, hxjc, by decide, rfl, rfl, rfl, rfl⟩))
  · refine lv_tableIn (tgt := 49) hx hb dX7_ofCloth_7 (by decide) (by decide) rfl (by decide) ?_
    refine lv_aload_n hx hb dX7_ofCloth_49 rfl (hL.at 3 rfl) ?_
    refine k_getN (ci := 2) (C := RX0) (T := TX0) (N := 6) hx hb hts w_RX0 hown hK hW (by first | assumption | exact up_s | (rw [up_n (by omega)]; first | assumption | exact up_s | (rw [up_n (by omega)]; first | assumption | exact up_s | (rw [up_n (by omega)]; first | assumption | exact up_s | (rw [up_n (by omega)]; first | assumption | exact up_s | (rw [up_n (by omega)]; first | assumption | exact up_s | (rw [up_n (by omega)]; first | assumption | exact up_s | (rw [up_n (by omega)]; first | assumption | exact up_s | (rw [up_n (by omega)]; first | assumption | exact up_s | (rw [up_n (by omega)]; first | assumption | exact up_s | (rw [up_n (by omega)]; first | assumption | exact up_s | (rw [up_n (by omega)]; first | assumption | exact up_s)))))))))))) rfl 4 (by decide) (hq _ q482 rfl) (fun _ h9 => h9) (by rfl) dX7_ofCloth_50 ?_
    rw [hQ]
    exact vx_ret (k_dret hx hb hr hlocks hW hS (by omega) (by omega) dX7_ofCloth_53 (⟨jc, 1, hc, hxjc, by decide, rfl, rfl, rfl, rfl⟩))
  · refine lv_tableIn (tgt := 54) hx hb dX7_ofCloth_7 (by decide) (by decide) rfl (by decide) ?_
    refine lv_aload_n hx hb dX7_ofCloth_54 rfl (hL.at 3 rfl) ?_
    refine k_getN (ci := 2) (C := RX0) (T := TX0) (N := 6) hx hb hts w_RX0 hown hK hW (by first | assumption | exact up_s | (rw [up_n (by omega)]; first | assumption | exact up_s | (rw [up_n (by omega)]; first | assumption | exact up_s | (rw [up_n (by omega)]; first | assumption | exact up_s | (rw [up_n (by omega)]; first | assumption | exact up_s | (rw [up_n (by omega)]; first | assumption | exact up_s | (rw [up_n (by omega)]; first | assumption | exact up_s | (rw [up_n (by omega)]; first | assumption | exact up_s | (rw [up_n (by omega)]; first | assumption | exact up_s | (rw [up_n (by omega)]; first | assumption | exact up_s | (rw [up_n (by omega)]; first | assumption | exact up_s | (rw [up_n (by omega)]; first | assumption | exact up_s)))))))))))) rfl 5 (by decide) (hq _ q484 rfl) (fun _ h9 => h9) (by rfl) dX7_ofCloth_55 ?_
    refine lv_f2d hx hb dX7_ofCloth_58 (fShr_no (by omega)) ?_
    rw [hQ]
    exact vx_ret (k_dret hx hb hr hlocks hW hS (by omega) (by omega) dX7_ofCloth_59 (⟨jc, 2, hc, hxjc, by decide, rfl, rfl, rfl, rfl⟩))
  · refine lv_tableIn (tgt := 60) hx hb dX7_ofCloth_7 (by decide) (by decide) rfl (by decide) ?_
    refine lv_aload_n hx hb dX7_ofCloth_60 rfl (hL.at 3 rfl) ?_
    refine k_getN (ci := 2) (C := RX0) (T := TX0) (N := 6) hx hb hts w_RX0 hown hK hW (by first | assumption | exact up_s | (rw [up_n (by omega)]; first | assumption | exact up_s | (rw [up_n (by omega)]; first | assumption | exact up_s | (rw [up_n (by omega)]; first | assumption | exact up_s | (rw [up_n (by omega)]; first | assumption | exact up_s | (rw [up_n (by omega)]; first | assumption | exact up_s | (rw [up_n (by omega)]; first | assumption | exact up_s | (rw [up_n (by omega)]; first | assumption | exact up_s | (rw [up_n (by omega)]; first | assumption | exact up_s | (rw [up_n (by omega)]; first | assumption | exact up_s | (rw [up_n (by omega)]; first | assumption | exact up_s | (rw [up_n (by omega)]; first | assumption | exact up_s)))))))))))) rfl 0 (by decide) (hq _ q472 rfl) (fun _ h9 => h9) (by rfl) dX7_ofCloth_61 ?_
    refine lv_i2d hx hb dX7_ofCloth_64 ?_
    rw [hQ]
    exact vx_ret (k_dret hx hb hr hlocks hW hS (by omega) (by omega) dX7_ofCloth_65 (⟨jc, 3, hc, hxjc, by decide, rfl, rfl, rfl, rfl⟩))
  · refine lv_tableIn (tgt := 66) hx hb dX7_ofCloth_7 (by decide) (by decide) rfl (by decide) ?_
    refine lv_aload_n hx hb dX7_ofCloth_66 rfl (hL.at 3 rfl) ?_
    refine k_getN (ci := 2) (C := RX0) (T := TX0) (N := 6) hx hb hts w_RX0 hown hK hW (by first | assumption | exact up_s | (rw [up_n (by omega)]; first | assumption | exact up_s | (rw [up_n (by omega)]; first | assumption | exact up_s | (rw [up_n (by omega)]; first | assumption | exact up_s | (rw [up_n (by omega)]; first | assumption | exact up_s | (rw [up_n (by omega)]; first | assumption | exact up_s | (rw [up_n (by omega)]; first | assumption | exact up_s | (rw [up_n (by omega)]; first | assumption | exact up_s | (rw [up_n (by omega)]; first | assumption | exact up_s | (rw [up_n (by omega)]; first | assumption | exact up_s | (rw [up_n (by omega)]; first | assumption | exact up_s | (rw [up_n (by omega)]; first | assumption | exact up_s)))))))))))) rfl 1 (by decide) (hq _ q475 rfl) (fun _ h9 => h9) (by rfl) dX7_ofCloth_67 ?_
    refine lv_if_eq (tgt := 77) hx hb dX7_ofCloth_70 (by decide) (fun c70 => ?_) (fun c70 => ?_)
    · try dsimp only at c70
      refine lv_dconst0 hx hb dX7_ofCloth_77 ?_
      rw [hQ]
      exact vx_ret (k_dret hx hb hr hlocks hW hS (by omega) (by omega) dX7_ofCloth_78 (⟨jc, 4, hc, hxjc, by decide, rfl, by show _ = some (Value.double (if (mcl M jc).2.2.2.2.1 = 0 then cD0 else cD1)); first | (rw [if_pos c70]; rfl) | (rw [if_neg c70]; rfl), rfl, rfl⟩))
    · try dsimp only at c70
      refine lv_dconst1 hx hb dX7_ofCloth_73 ?_
      refine lv_goto (tgt := 78) hx hb dX7_ofCloth_74 (by decide) ?_
      rw [hQ]
      exact vx_ret (k_dret hx hb hr hlocks hW hS (by omega) (by omega) dX7_ofCloth_78 (⟨jc, 4, hc, hxjc, by decide, rfl, by show _ = some (Value.double (if (mcl M jc).2.2.2.2.1 = 0 then cD0 else cD1)); first | (rw [if_pos c70]; rfl) | (rw [if_neg c70]; rfl), rfl, rfl⟩))
  · refine lv_tableIn (tgt := 79) hx hb dX7_ofCloth_7 (by decide) (by decide) rfl (by decide) ?_
    refine lv_aload_n hx hb dX7_ofCloth_79 rfl (hL.at 3 rfl) ?_
    refine k_getN (ci := 2) (C := RX0) (T := TX0) (N := 6) hx hb hts w_RX0 hown hK hW (by first | assumption | exact up_s | (rw [up_n (by omega)]; first | assumption | exact up_s | (rw [up_n (by omega)]; first | assumption | exact up_s | (rw [up_n (by omega)]; first | assumption | exact up_s | (rw [up_n (by omega)]; first | assumption | exact up_s | (rw [up_n (by omega)]; first | assumption | exact up_s | (rw [up_n (by omega)]; first | assumption | exact up_s | (rw [up_n (by omega)]; first | assumption | exact up_s | (rw [up_n (by omega)]; first | assumption | exact up_s | (rw [up_n (by omega)]; first | assumption | exact up_s | (rw [up_n (by omega)]; first | assumption | exact up_s | (rw [up_n (by omega)]; first | assumption | exact up_s)))))))))))) rfl 2 (by decide) (hq _ q477 rfl) (fun _ h9 => h9) (by rfl) dX7_ofCloth_80 ?_
    refine lv_i2d hx hb dX7_ofCloth_83 ?_
    rw [hQ]
    exact vx_ret (k_dret hx hb hr hlocks hW hS (by omega) (by omega) dX7_ofCloth_84 (⟨jc, 5, hc, hxjc, by decide, rfl, rfl, rfl, rfl⟩))
  · refine lv_tableOut (tgt := 85) hx hb dX7_ofCloth_7 hout7 (by decide) ?_
    rw [hQ]
    exact k_throwW G hx hb hlocks (names := ["java/lang/RuntimeException", "java/lang/Exception"]) hown hts hq hI (by decide) (by decide) (gT_in q220 rfl) (gT_in q64 rfl) 2 rfl (fun w hw => hq w (at_54 w hw).1 (at_54 w hw).2) ot_54 hW hS (hL.1.trans hml.symm) hin dX7_ofCloth_85 dX7_ofCloth_88 dX7_ofCloth_89 dX7_ofCloth_92 dX7_ofCloth_95 (by decide) (by decide) (by show _ ≤ (2 : Nat); omega) (by show _ ≤ (12 : Nat); omega) (by omega) (by omega) (Or.inr ⟨rfl, ⟨jc, hc, hxjc⟩, kIn_out hout7 (by decide)⟩)

set_option maxHeartbeats 4000000 in
set_option maxRecDepth 100000 in
/-- TailorBench.ofCloth  -/
theorem c_qofClothM {l : Launch} {D : va_G} {cy : Nat → ClassId} {sad : Nat → Nat} {em : Nat} {s0 : State} {a0 : Array Value} (G : kG kSTR l D cy sad em s0 a0) {ad : Nat → Nat} {ct : Nat → Option va_E} {M : tM} (hm : RepC cy ad ct M) (ho : okM M) {jc : Nat} (hc : jc < mC M) {wk : Nat} (hwk : wk < 6) :
    KM l yX7_ofCloth [.code yX7_ofCloth prog_1_method_17_code 4 (some .double)] 1 30 0 0 [.ref (ad 1), .int (nI jc), .int (nI wk)] D s0 ad ct (fun v ad' ct' => v = some (.double (fOC (mcl M jc) wk)) ∧ ad' = ad ∧ ct' = ct) := by
  refine KM.of G (by decide) (Nat.le_of_ble_eq_true rfl) (Nat.le_of_ble_eq_true rfl) ?_
  intro p e s m args below meth c ls Q hQ X hin hL hW hS
  obtain ⟨hx, hb, hr, hml, hown, hlocks, hts, hq, hK, hI⟩ := X
  have hbn := ho.1
  have hs1 := hm.1
  refine lv_aload_n hx hb dX7_ofCloth_0 rfl (hL.at 0 rfl) ?_
  refine lv_iload_n hx hb dX7_ofCloth_1 rfl (hL.at 1 rfl) ?_
  refine k_callV (q := (RX7, TX7, 15)) hx hb hml hown hts hK hI hS hW hL.1 (by first | assumption | exact up_s | (rw [up_n (by omega)]; first | assumption | exact up_s | (rw [up_n (by omega)]; first | assumption | exact up_s | (rw [up_n (by omega)]; first | assumption | exact up_s | (rw [up_n (by omega)]; first | assumption | exact up_s | (rw [up_n (by omega)]; first | assumption | exact up_s | (rw [up_n (by omega)]; first | assumption | exact up_s | (rw [up_n (by omega)]; first | assumption | exact up_s | (rw [up_n (by omega)]; first | assumption | exact up_s | (rw [up_n (by omega)]; first | assumption | exact up_s | (rw [up_n (by omega)]; first | assumption | exact up_s | (rw [up_n (by omega)]; first | assumption | exact up_s)))))))))))) rfl (c_clothAtM G hm ho (x := nI jc) ⟨jc, hc, rfl⟩) (m5 (gT_in q296 rfl) (gT_in q298 rfl) (gT_in q2 rfl) (gT_in q55 rfl) (gT_in q299 rfl)) rfl (show kpar yX7_clothAt 1 from ⟨by decide, by decide, by decide +kernel⟩) ⟨by decide, by decide⟩ (by show _ ≤ (0 : Nat); omega) (by show _ ≤ (0 : Nat); omega) rfl (by decide) dX7_ofCloth_2 (fun v ad2 ct2 H locs hp hW hS => ?_)
  obtain ⟨z9, hz9, hzj, rfl, h1, h2⟩ := hp
  obtain rfl : jc = z9 := (nI_eq (by omega) (by omega)).mp hzj
  rw [h1, h2] at hW
  refine k_ast_n hx hb hL (i := 3) rfl (by decide) dX7_ofCloth_5 (fun ls hL => ?_)
  have hC := hm.2.2.1 jc hc
  have hk8 := (ho.2.1 jc hc).1
  refine lv_iload_n hx hb dX7_ofCloth_6 rfl (hL.at 2 rfl) ?_
  rcases (show wk = 0 ∨ wk = 1 ∨ wk = 2 ∨ wk = 3 ∨ wk = 4 ∨ wk = 5 by omega) with rfl | rfl | rfl | rfl | rfl | rfl
  · refine lv_tableIn (tgt := 44) hx hb dX7_ofCloth_7 (by decide) (by decide) rfl (by decide) ?_
    refine lv_aload_n hx hb dX7_ofCloth_44 rfl (hL.at 3 rfl) ?_
    refine k_getN (ci := 2) (C := RX0) (T := TX0) (N := 6) hx hb hts w_RX0 hown hK hW (by first | assumption | exact up_s | (rw [up_n (by omega)]; first | assumption | exact up_s | (rw [up_n (by omega)]; first | assumption | exact up_s | (rw [up_n (by omega)]; first | assumption | exact up_s | (rw [up_n (by omega)]; first | assumption | exact up_s | (rw [up_n (by omega)]; first | assumption | exact up_s | (rw [up_n (by omega)]; first | assumption | exact up_s | (rw [up_n (by omega)]; first | assumption | exact up_s | (rw [up_n (by omega)]; first | assumption | exact up_s | (rw [up_n (by omega)]; first | assumption | exact up_s | (rw [up_n (by omega)]; first | assumption | exact up_s | (rw [up_n (by omega)]; first | assumption | exact up_s)))))))))))) rfl 3 (by decide) (hq _ q480 rfl) (fun _ h9 => h9) (by rfl) dX7_ofCloth_45 ?_
    rw [hQ]
    exact k_dret hx hb hr hlocks hW hS (by omega) (by omega) dX7_ofCloth_48 (⟨rfl, rfl, rfl⟩)
  · refine lv_tableIn (tgt := 49) hx hb dX7_ofCloth_7 (by decide) (by decide) rfl (by decide) ?_
    refine lv_aload_n hx hb dX7_ofCloth_49 rfl (hL.at 3 rfl) ?_
    refine k_getN (ci := 2) (C := RX0) (T := TX0) (N := 6) hx hb hts w_RX0 hown hK hW (by first | assumption | exact up_s | (rw [up_n (by omega)]; first | assumption | exact up_s | (rw [up_n (by omega)]; first | assumption | exact up_s | (rw [up_n (by omega)]; first | assumption | exact up_s | (rw [up_n (by omega)]; first | assumption | exact up_s | (rw [up_n (by omega)]; first | assumption | exact up_s | (rw [up_n (by omega)]; first | assumption | exact up_s | (rw [up_n (by omega)]; first | assumption | exact up_s | (rw [up_n (by omega)]; first | assumption | exact up_s | (rw [up_n (by omega)]; first | assumption | exact up_s | (rw [up_n (by omega)]; first | assumption | exact up_s | (rw [up_n (by omega)]; first | assumption | exact up_s)))))))))))) rfl 4 (by decide) (hq _ q482 rfl) (fun _ h9 => h9) (by rfl) dX7_ofCloth_50 ?_
    rw [hQ]
    exact k_dret hx hb hr hlocks hW hS (by omega) (by omega) dX7_ofCloth_53 (⟨rfl, rfl, rfl⟩)
  · refine lv_tableIn (tgt := 54) hx hb dX7_ofCloth_7 (by decide) (by decide) rfl (by decide) ?_
    refine lv_aload_n hx hb dX7_ofCloth_54 rfl (hL.at 3 rfl) ?_
    refine k_getN (ci := 2) (C := RX0) (T := TX0) (N := 6) hx hb hts w_RX0 hown hK hW (by first | assumption | exact up_s | (rw [up_n (by omega)]; first | assumption | exact up_s | (rw [up_n (by omega)]; first | assumption | exact up_s | (rw [up_n (by omega)]; first | assumption | exact up_s | (rw [up_n (by omega)]; first | assumption | exact up_s | (rw [up_n (by omega)]; first | assumption | exact up_s | (rw [up_n (by omega)]; first | assumption | exact up_s | (rw [up_n (by omega)]; first | assumption | exact up_s | (rw [up_n (by omega)]; first | assumption | exact up_s | (rw [up_n (by omega)]; first | assumption | exact up_s | (rw [up_n (by omega)]; first | assumption | exact up_s | (rw [up_n (by omega)]; first | assumption | exact up_s)))))))))))) rfl 5 (by decide) (hq _ q484 rfl) (fun _ h9 => h9) (by rfl) dX7_ofCloth_55 ?_
    refine lv_f2d hx hb dX7_ofCloth_58 (fShr_no (by omega)) ?_
    rw [hQ]
    exact k_dret hx hb hr hlocks hW hS (by omega) (by omega) dX7_ofCloth_59 (⟨rfl, rfl, rfl⟩)
  · refine lv_tableIn (tgt := 60) hx hb dX7_ofCloth_7 (by decide) (by decide) rfl (by decide) ?_
    refine lv_aload_n hx hb dX7_ofCloth_60 rfl (hL.at 3 rfl) ?_
    refine k_getN (ci := 2) (C := RX0) (T := TX0) (N := 6) hx hb hts w_RX0 hown hK hW (by first | assumption | exact up_s | (rw [up_n (by omega)]; first | assumption | exact up_s | (rw [up_n (by omega)]; first | assumption | exact up_s | (rw [up_n (by omega)]; first | assumption | exact up_s | (rw [up_n (by omega)]; first | assumption | exact up_s | (rw [up_n (by omega)]; first | assumption | exact up_s | (rw [up_n (by omega)]; first | assumption | exact up_s | (rw [up_n (by omega)]; first | assumption | exact up_s | (rw [up_n (by omega)]; first | assumption | exact up_s | (rw [up_n (by omega)]; first | assumption | exact up_s | (rw [up_n (by omega)]; first | assumption | exact up_s | (rw [up_n (by omega)]; first | assumption | exact up_s)))))))))))) rfl 0 (by decide) (hq _ q472 rfl) (fun _ h9 => h9) (by rfl) dX7_ofCloth_61 ?_
    refine lv_i2d hx hb dX7_ofCloth_64 ?_
    rw [hQ]
    exact k_dret hx hb hr hlocks hW hS (by omega) (by omega) dX7_ofCloth_65 (⟨rfl, rfl, rfl⟩)
  · refine lv_tableIn (tgt := 66) hx hb dX7_ofCloth_7 (by decide) (by decide) rfl (by decide) ?_
    refine lv_aload_n hx hb dX7_ofCloth_66 rfl (hL.at 3 rfl) ?_
    refine k_getN (ci := 2) (C := RX0) (T := TX0) (N := 6) hx hb hts w_RX0 hown hK hW (by first | assumption | exact up_s | (rw [up_n (by omega)]; first | assumption | exact up_s | (rw [up_n (by omega)]; first | assumption | exact up_s | (rw [up_n (by omega)]; first | assumption | exact up_s | (rw [up_n (by omega)]; first | assumption | exact up_s | (rw [up_n (by omega)]; first | assumption | exact up_s | (rw [up_n (by omega)]; first | assumption | exact up_s | (rw [up_n (by omega)]; first | assumption | exact up_s | (rw [up_n (by omega)]; first | assumption | exact up_s | (rw [up_n (by omega)]; first | assumption | exact up_s | (rw [up_n (by omega)]; first | assumption | exact up_s | (rw [up_n (by omega)]; first | assumption | exact up_s)))))))))))) rfl 1 (by decide) (hq _ q475 rfl) (fun _ h9 => h9) (by rfl) dX7_ofCloth_67 ?_
    refine lv_if_eq (tgt := 77) hx hb dX7_ofCloth_70 (by decide) (fun c70 => ?_) (fun c70 => ?_)
    · try dsimp only at c70
      refine lv_dconst0 hx hb dX7_ofCloth_77 ?_
      rw [hQ]
      exact k_dret hx hb hr hlocks hW hS (by omega) (by omega) dX7_ofCloth_78 (⟨by show _ = some (Value.double (if (mcl M jc).2.2.2.2.1 = 0 then cD0 else cD1)); first | (rw [if_pos c70]; rfl) | (rw [if_neg c70]; rfl), rfl, rfl⟩)
    · try dsimp only at c70
      refine lv_dconst1 hx hb dX7_ofCloth_73 ?_
      refine lv_goto (tgt := 78) hx hb dX7_ofCloth_74 (by decide) ?_
      rw [hQ]
      exact k_dret hx hb hr hlocks hW hS (by omega) (by omega) dX7_ofCloth_78 (⟨by show _ = some (Value.double (if (mcl M jc).2.2.2.2.1 = 0 then cD0 else cD1)); first | (rw [if_pos c70]; rfl) | (rw [if_neg c70]; rfl), rfl, rfl⟩)
  · refine lv_tableIn (tgt := 79) hx hb dX7_ofCloth_7 (by decide) (by decide) rfl (by decide) ?_
    refine lv_aload_n hx hb dX7_ofCloth_79 rfl (hL.at 3 rfl) ?_
    refine k_getN (ci := 2) (C := RX0) (T := TX0) (N := 6) hx hb hts w_RX0 hown hK hW (by first | assumption | exact up_s | (rw [up_n (by omega)]; first | assumption | exact up_s | (rw [up_n (by omega)]; first | assumption | exact up_s | (rw [up_n (by omega)]; first | assumption | exact up_s | (rw [up_n (by omega)]; first | assumption | exact up_s | (rw [up_n (by omega)]; first | assumption | exact up_s | (rw [up_n (by omega)]; first | assumption | exact up_s | (rw [up_n (by omega)]; first | assumption | exact up_s | (rw [up_n (by omega)]; first | assumption | exact up_s | (rw [up_n (by omega)]; first | assumption | exact up_s | (rw [up_n (by omega)]; first | assumption | exact up_s | (rw [up_n (by omega)]; first | assumption | exact up_s)))))))))))) rfl 2 (by decide) (hq _ q477 rfl) (fun _ h9 => h9) (by rfl) dX7_ofCloth_80 ?_
    refine lv_i2d hx hb dX7_ofCloth_83 ?_
    rw [hQ]
    exact k_dret hx hb hr hlocks hW hS (by omega) (by omega) dX7_ofCloth_84 (⟨rfl, rfl, rfl⟩)

set_option maxHeartbeats 4000000 in
set_option maxRecDepth 100000 in
/-- TailorBench.ofOrder  -/
theorem c_qofOrder {l : Launch} {D : va_G} {cy : Nat → ClassId} {sad : Nat → Nat} {em : Nat} {s0 : State} {a0 : Array Value} (G : kG kSTR l D cy sad em s0 a0) {ad : Nat → Nat} {ct : Nat → Option va_E} {M : tM} (hm : RepC cy ad ct M) (ho : okM M) (x wh : Int32) :
    KX l yX7_ofOrder [.code yX7_ofOrder prog_1_method_19_code 4 (some .int)] 7 120 2 12 [.ref (ad 1), .int x, .int wh] D s0 ad ct (fun v ad' ct' => ∃ i wk, i < mO M ∧ x = nI i ∧ wk < 8 ∧ wh = nI wk ∧ v = some (.int (fOO M i wk)) ∧ ad' = ad ∧ ct' = ct) (fun E => (E = eIdx ∧ ¬ kIn x (mO M)) ∨ (E = eArg ∧ kIn x (mO M) ∧ ¬ kIn wh 8)) := by
  refine KX.of G (by decide) (Nat.le_of_ble_eq_true rfl) (Nat.le_of_ble_eq_true rfl) ?_
  intro p e s m args below meth c ls Q hQ X hin hL hW hS
  obtain ⟨hx, hb, hr, hml, hown, hlocks, hts, hq, hK, hI⟩ := X
  have hbn := ho.1
  have hs1 := hm.1
  refine lv_aload_n hx hb dX7_ofOrder_0 rfl (hL.at 0 rfl) ?_
  refine lv_iload_n hx hb dX7_ofOrder_1 rfl (hL.at 1 rfl) ?_
  refine k_callVX (q := (RX7, TX7, 15)) hx hb hml hown hts hK hI hS hW hL.1 (by first | assumption | exact up_s | (rw [up_n (by omega)]; first | assumption | exact up_s | (rw [up_n (by omega)]; first | assumption | exact up_s | (rw [up_n (by omega)]; first | assumption | exact up_s | (rw [up_n (by omega)]; first | assumption | exact up_s | (rw [up_n (by omega)]; first | assumption | exact up_s | (rw [up_n (by omega)]; first | assumption | exact up_s | (rw [up_n (by omega)]; first | assumption | exact up_s | (rw [up_n (by omega)]; first | assumption | exact up_s | (rw [up_n (by omega)]; first | assumption | exact up_s | (rw [up_n (by omega)]; first | assumption | exact up_s | (rw [up_n (by omega)]; first | assumption | exact up_s)))))))))))) rfl (c_orderAt G hm ho x) (m5 (gT_in q325 rfl) (gT_in q327 rfl) (gT_in q3 rfl) (gT_in q55 rfl) (gT_in q328 rfl)) rfl (show kpar yX7_orderAt 1 from ⟨by decide, by decide, by decide +kernel⟩) ⟨by decide, by decide⟩ (by show _ ≤ (2 : Nat); omega) (by show _ ≤ (12 : Nat); omega) rfl (by decide) dX7_ofOrder_2 (fun E ce q9 H locs hp hW hS hce hcv hcl => ?_) (fun v ad2 ct2 H locs hp hW hS => ?_)
  · rw [hQ]; exact k_out hown hlocks hin hW hS hce hcv hcl (by omega) (by omega) (Or.inl hp)
  obtain ⟨i, hi, hxi, rfl, h1, h2⟩ := hp
  rw [h1, h2] at hW
  refine k_ast_n hx hb hL (i := 3) rfl (by decide) dX7_ofOrder_5 (fun ls hL => ?_)
  obtain ⟨oo, ob, os, oa, op, ow, oms, o5, ok, opos, ost⟩ := hm.ord ho hi
  refine lv_iload_n hx hb dX7_ofOrder_6 rfl (hL.at 2 rfl) ?_
  rcases (tsw8 wh) with rfl | rfl | rfl | rfl | rfl | rfl | rfl | rfl | hout7
  · refine lv_tableIn (tgt := 52) hx hb dX7_ofOrder_7 (by decide) (by decide) rfl (by decide) ?_
    refine lv_aload_n hx hb dX7_ofOrder_52 rfl (hL.at 3 rfl) ?_
    refine k_getN (ci := 4) (C := RX2) (T := TX2) (N := 10) hx hb hts w_RX2 hown hK hW (by first | assumption | exact up_s | (rw [up_n (by omega)]; first | assumption | exact up_s | (rw [up_n (by omega)]; first | assumption | exact up_s | (rw [up_n (by omega)]; first | assumption | exact up_s | (rw [up_n (by omega)]; first | assumption | exact up_s | (rw [up_n (by omega)]; first | assumption | exact up_s | (rw [up_n (by omega)]; first | assumption | exact up_s | (rw [up_n (by omega)]; first | assumption | exact up_s | (rw [up_n (by omega)]; first | assumption | exact up_s | (rw [up_n (by omega)]; first | assumption | exact up_s | (rw [up_n (by omega)]; first | assumption | exact up_s | (rw [up_n (by omega)]; first | assumption | exact up_s)))))))))))) rfl 0 (by decide) (hq _ q671 rfl) (fun _ h9 => h9) (by rfl) dX7_ofOrder_53 ?_
    refine k_getN (ci := 5) (C := RX3) (T := TX3) (N := 5) hx hb hts w_RX3 hown hK hW (by first | assumption | exact up_s | (rw [up_n (by omega)]; first | assumption | exact up_s | (rw [up_n (by omega)]; first | assumption | exact up_s | (rw [up_n (by omega)]; first | assumption | exact up_s | (rw [up_n (by omega)]; first | assumption | exact up_s | (rw [up_n (by omega)]; first | assumption | exact up_s | (rw [up_n (by omega)]; first | assumption | exact up_s | (rw [up_n (by omega)]; first | assumption | exact up_s | (rw [up_n (by omega)]; first | assumption | exact up_s | (rw [up_n (by omega)]; first | assumption | exact up_s | (rw [up_n (by omega)]; first | assumption | exact up_s | (rw [up_n (by omega)]; first | assumption | exact up_s)))))))))))) rfl 0 (by decide) (hq _ q524 rfl) (fun _ h9 => h9) (by rfl) dX7_ofOrder_56 ?_
    rw [hQ]
    exact vx_ret (k_iret hx hb hr hlocks hW hS (by omega) (by omega) dX7_ofOrder_59 (⟨i, 0, hi, hxi, by decide, rfl, rfl, rfl, rfl⟩))
  · refine lv_tableIn (tgt := 60) hx hb dX7_ofOrder_7 (by decide) (by decide) rfl (by decide) ?_
    refine lv_aload_n hx hb dX7_ofOrder_60 rfl (hL.at 3 rfl) ?_
    refine k_getN (ci := 4) (C := RX2) (T := TX2) (N := 10) hx hb hts w_RX2 hown hK hW (by first | assumption | exact up_s | (rw [up_n (by omega)]; first | assumption | exact up_s | (rw [up_n (by omega)]; first | assumption | exact up_s | (rw [up_n (by omega)]; first | assumption | exact up_s | (rw [up_n (by omega)]; first | assumption | exact up_s | (rw [up_n (by omega)]; first | assumption | exact up_s | (rw [up_n (by omega)]; first | assumption | exact up_s | (rw [up_n (by omega)]; first | assumption | exact up_s | (rw [up_n (by omega)]; first | assumption | exact up_s | (rw [up_n (by omega)]; first | assumption | exact up_s | (rw [up_n (by omega)]; first | assumption | exact up_s | (rw [up_n (by omega)]; first | assumption | exact up_s)))))))))))) rfl 1 (by decide) (hq _ q674 rfl) (fun _ h9 => h9) (by rfl) dX7_ofOrder_61 ?_
    refine k_getN (ci := 7) (C := RX5) (T := TX5) (N := 5) hx hb hts w_RX5 hown hK hW (by first | assumption | exact up_s | (rw [up_n (by omega)]; first | assumption | exact up_s | (rw [up_n (by omega)]; first | assumption | exact up_s | (rw [up_n (by omega)]; first | assumption | exact up_s | (rw [up_n (by omega)]; first | assumption | exact up_s | (rw [up_n (by omega)]; first | assumption | exact up_s | (rw [up_n (by omega)]; first | assumption | exact up_s | (rw [up_n (by omega)]; first | assumption | exact up_s | (rw [up_n (by omega)]; first | assumption | exact up_s | (rw [up_n (by omega)]; first | assumption | exact up_s | (rw [up_n (by omega)]; first | assumption | exact up_s | (rw [up_n (by omega)]; first | assumption | exact up_s)))))))))))) rfl 0 (by decide) (hq _ q574 rfl) (fun _ h9 => h9) (by rfl) dX7_ofOrder_64 ?_
    rw [hQ]
    exact vx_ret (k_iret hx hb hr hlocks hW hS (by omega) (by omega) dX7_ofOrder_67 (⟨i, 1, hi, hxi, by decide, rfl, rfl, rfl, rfl⟩))
  · refine lv_tableIn (tgt := 68) hx hb dX7_ofOrder_7 (by decide) (by decide) rfl (by decide) ?_
    refine lv_aload_n hx hb dX7_ofOrder_68 rfl (hL.at 3 rfl) ?_
    refine k_getN (ci := 4) (C := RX2) (T := TX2) (N := 10) hx hb hts w_RX2 hown hK hW (by first | assumption | exact up_s | (rw [up_n (by omega)]; first | assumption | exact up_s | (rw [up_n (by omega)]; first | assumption | exact up_s | (rw [up_n (by omega)]; first | assumption | exact up_s | (rw [up_n (by omega)]; first | assumption | exact up_s | (rw [up_n (by omega)]; first | assumption | exact up_s | (rw [up_n (by omega)]; first | assumption | exact up_s | (rw [up_n (by omega)]; first | assumption | exact up_s | (rw [up_n (by omega)]; first | assumption | exact up_s | (rw [up_n (by omega)]; first | assumption | exact up_s | (rw [up_n (by omega)]; first | assumption | exact up_s | (rw [up_n (by omega)]; first | assumption | exact up_s)))))))))))) rfl 2 (by decide) (hq _ q676 rfl) (fun _ h9 => h9) (by rfl) dX7_ofOrder_69 ?_
    rw [hQ]
    exact vx_ret (k_iret hx hb hr hlocks hW hS (by omega) (by omega) dX7_ofOrder_72 (⟨i, 2, hi, hxi, by decide, rfl, rfl, rfl, rfl⟩))
  · refine lv_tableIn (tgt := 73) hx hb dX7_ofOrder_7 (by decide) (by decide) rfl (by decide) ?_
    refine lv_aload_n hx hb dX7_ofOrder_73 rfl (hL.at 3 rfl) ?_
    refine k_getN (ci := 4) (C := RX2) (T := TX2) (N := 10) hx hb hts w_RX2 hown hK hW (by first | assumption | exact up_s | (rw [up_n (by omega)]; first | assumption | exact up_s | (rw [up_n (by omega)]; first | assumption | exact up_s | (rw [up_n (by omega)]; first | assumption | exact up_s | (rw [up_n (by omega)]; first | assumption | exact up_s | (rw [up_n (by omega)]; first | assumption | exact up_s | (rw [up_n (by omega)]; first | assumption | exact up_s | (rw [up_n (by omega)]; first | assumption | exact up_s | (rw [up_n (by omega)]; first | assumption | exact up_s | (rw [up_n (by omega)]; first | assumption | exact up_s | (rw [up_n (by omega)]; first | assumption | exact up_s | (rw [up_n (by omega)]; first | assumption | exact up_s)))))))))))) rfl 4 (by decide) (hq _ q679 rfl) (fun _ h9 => h9) (by rfl) dX7_ofOrder_74 ?_
    rw [hQ]
    exact vx_ret (k_iret hx hb hr hlocks hW hS (by omega) (by omega) dX7_ofOrder_77 (⟨i, 3, hi, hxi, by decide, rfl, rfl, rfl, rfl⟩))
  · refine lv_tableIn (tgt := 78) hx hb dX7_ofOrder_7 (by decide) (by decide) rfl (by decide) ?_
    refine lv_aload_n hx hb dX7_ofOrder_78 rfl (hL.at 3 rfl) ?_
    refine k_getN (ci := 4) (C := RX2) (T := TX2) (N := 10) hx hb hts w_RX2 hown hK hW (by first | assumption | exact up_s | (rw [up_n (by omega)]; first | assumption | exact up_s | (rw [up_n (by omega)]; first | assumption | exact up_s | (rw [up_n (by omega)]; first | assumption | exact up_s | (rw [up_n (by omega)]; first | assumption | exact up_s | (rw [up_n (by omega)]; first | assumption | exact up_s | (rw [up_n (by omega)]; first | assumption | exact up_s | (rw [up_n (by omega)]; first | assumption | exact up_s | (rw [up_n (by omega)]; first | assumption | exact up_s | (rw [up_n (by omega)]; first | assumption | exact up_s | (rw [up_n (by omega)]; first | assumption | exact up_s | (rw [up_n (by omega)]; first | assumption | exact up_s)))))))))))) rfl 5 (by decide) (hq _ q681 rfl) (fun _ h9 => h9) (by rfl) dX7_ofOrder_79 ?_
    rw [hQ]
    exact vx_ret (k_iret hx hb hr hlocks hW hS (by omega) (by omega) dX7_ofOrder_82 (⟨i, 4, hi, hxi, by decide, rfl, rfl, rfl, rfl⟩))
  · refine lv_tableIn (tgt := 83) hx hb dX7_ofOrder_7 (by decide) (by decide) rfl (by decide) ?_
    refine lv_aload_n hx hb dX7_ofOrder_83 rfl (hL.at 3 rfl) ?_
    refine k_getN (ci := 4) (C := RX2) (T := TX2) (N := 10) hx hb hts w_RX2 hown hK hW (by first | assumption | exact up_s | (rw [up_n (by omega)]; first | assumption | exact up_s | (rw [up_n (by omega)]; first | assumption | exact up_s | (rw [up_n (by omega)]; first | assumption | exact up_s | (rw [up_n (by omega)]; first | assumption | exact up_s | (rw [up_n (by omega)]; first | assumption | exact up_s | (rw [up_n (by omega)]; first | assumption | exact up_s | (rw [up_n (by omega)]; first | assumption | exact up_s | (rw [up_n (by omega)]; first | assumption | exact up_s | (rw [up_n (by omega)]; first | assumption | exact up_s | (rw [up_n (by omega)]; first | assumption | exact up_s | (rw [up_n (by omega)]; first | assumption | exact up_s)))))))))))) rfl 1 (by decide) (hq _ q674 rfl) (fun _ h9 => h9) (by rfl) dX7_ofOrder_84 ?_
    refine k_getN (ci := 7) (C := RX5) (T := TX5) (N := 5) hx hb hts w_RX5 hown hK hW (by first | assumption | exact up_s | (rw [up_n (by omega)]; first | assumption | exact up_s | (rw [up_n (by omega)]; first | assumption | exact up_s | (rw [up_n (by omega)]; first | assumption | exact up_s | (rw [up_n (by omega)]; first | assumption | exact up_s | (rw [up_n (by omega)]; first | assumption | exact up_s | (rw [up_n (by omega)]; first | assumption | exact up_s | (rw [up_n (by omega)]; first | assumption | exact up_s | (rw [up_n (by omega)]; first | assumption | exact up_s | (rw [up_n (by omega)]; first | assumption | exact up_s | (rw [up_n (by omega)]; first | assumption | exact up_s | (rw [up_n (by omega)]; first | assumption | exact up_s)))))))))))) rfl 3 (by decide) (hq _ q582 rfl) (fun _ h9 => h9) (by rfl) dX7_ofOrder_87 ?_
    rw [hQ]
    exact vx_ret (k_iret hx hb hr hlocks hW hS (by omega) (by omega) dX7_ofOrder_90 (⟨i, 5, hi, hxi, by decide, rfl, rfl, rfl, rfl⟩))
  · refine lv_tableIn (tgt := 91) hx hb dX7_ofOrder_7 (by decide) (by decide) rfl (by decide) ?_
    refine lv_aload_n hx hb dX7_ofOrder_91 rfl (hL.at 3 rfl) ?_
    refine k_getN (ci := 4) (C := RX2) (T := TX2) (N := 10) hx hb hts w_RX2 hown hK hW (by first | assumption | exact up_s | (rw [up_n (by omega)]; first | assumption | exact up_s | (rw [up_n (by omega)]; first | assumption | exact up_s | (rw [up_n (by omega)]; first | assumption | exact up_s | (rw [up_n (by omega)]; first | assumption | exact up_s | (rw [up_n (by omega)]; first | assumption | exact up_s | (rw [up_n (by omega)]; first | assumption | exact up_s | (rw [up_n (by omega)]; first | assumption | exact up_s | (rw [up_n (by omega)]; first | assumption | exact up_s | (rw [up_n (by omega)]; first | assumption | exact up_s | (rw [up_n (by omega)]; first | assumption | exact up_s | (rw [up_n (by omega)]; first | assumption | exact up_s)))))))))))) rfl 9 (by decide) (hq _ q689 rfl) (fun _ h9 => h9) (by rfl) dX7_ofOrder_92 ?_
    rw [hQ]
    exact vx_ret (k_iret hx hb hr hlocks hW hS (by omega) (by omega) dX7_ofOrder_95 (⟨i, 6, hi, hxi, by decide, rfl, rfl, rfl, rfl⟩))
  · refine lv_tableIn (tgt := 96) hx hb dX7_ofOrder_7 (by decide) (by decide) rfl (by decide) ?_
    refine lv_aload_n hx hb dX7_ofOrder_96 rfl (hL.at 3 rfl) ?_
    refine k_getN (ci := 4) (C := RX2) (T := TX2) (N := 10) hx hb hts w_RX2 hown hK hW (by first | assumption | exact up_s | (rw [up_n (by omega)]; first | assumption | exact up_s | (rw [up_n (by omega)]; first | assumption | exact up_s | (rw [up_n (by omega)]; first | assumption | exact up_s | (rw [up_n (by omega)]; first | assumption | exact up_s | (rw [up_n (by omega)]; first | assumption | exact up_s | (rw [up_n (by omega)]; first | assumption | exact up_s | (rw [up_n (by omega)]; first | assumption | exact up_s | (rw [up_n (by omega)]; first | assumption | exact up_s | (rw [up_n (by omega)]; first | assumption | exact up_s | (rw [up_n (by omega)]; first | assumption | exact up_s | (rw [up_n (by omega)]; first | assumption | exact up_s)))))))))))) rfl 7 (by decide) (hq _ q685 rfl) (fun _ h9 => h9) (by rfl) dX7_ofOrder_97 ?_
    rw [hQ]
    exact vx_ret (k_iret hx hb hr hlocks hW hS (by omega) (by omega) dX7_ofOrder_100 (⟨i, 7, hi, hxi, by decide, rfl, rfl, rfl, rfl⟩))
  · refine lv_tableOut (tgt := 101) hx hb dX7_ofOrder_7 hout7 (by decide) ?_
    rw [hQ]
    exact k_throwW G hx hb hlocks (names := ["java/lang/RuntimeException", "java/lang/Exception"]) hown hts hq hI (by decide) (by decide) (gT_in q220 rfl) (gT_in q64 rfl) 4 rfl (fun w hw => hq w (at_54 w hw).1 (at_54 w hw).2) ot_54 hW hS (hL.1.trans hml.symm) hin dX7_ofOrder_101 dX7_ofOrder_104 dX7_ofOrder_105 dX7_ofOrder_108 dX7_ofOrder_111 (by decide) (by decide) (by show _ ≤ (2 : Nat); omega) (by show _ ≤ (12 : Nat); omega) (by omega) (by omega) (Or.inr ⟨rfl, ⟨i, hi, hxi⟩, kIn_out hout7 (by decide)⟩)

set_option maxHeartbeats 4000000 in
set_option maxRecDepth 100000 in
/-- TailorBench.ofOrder  -/
theorem c_qofOrderM {l : Launch} {D : va_G} {cy : Nat → ClassId} {sad : Nat → Nat} {em : Nat} {s0 : State} {a0 : Array Value} (G : kG kSTR l D cy sad em s0 a0) {ad : Nat → Nat} {ct : Nat → Option va_E} {M : tM} (hm : RepC cy ad ct M) (ho : okM M) {i : Nat} (hi : i < mO M) {wk : Nat} (hwk : wk < 8) :
    KM l yX7_ofOrder [.code yX7_ofOrder prog_1_method_19_code 4 (some .int)] 1 30 0 0 [.ref (ad 1), .int (nI i), .int (nI wk)] D s0 ad ct (fun v ad' ct' => v = some (.int (fOO M i wk)) ∧ ad' = ad ∧ ct' = ct) := by
  refine KM.of G (by decide) (Nat.le_of_ble_eq_true rfl) (Nat.le_of_ble_eq_true rfl) ?_
  intro p e s m args below meth c ls Q hQ X hin hL hW hS
  obtain ⟨hx, hb, hr, hml, hown, hlocks, hts, hq, hK, hI⟩ := X
  have hbn := ho.1
  have hs1 := hm.1
  refine lv_aload_n hx hb dX7_ofOrder_0 rfl (hL.at 0 rfl) ?_
  refine lv_iload_n hx hb dX7_ofOrder_1 rfl (hL.at 1 rfl) ?_
  refine k_callV (q := (RX7, TX7, 15)) hx hb hml hown hts hK hI hS hW hL.1 (by first | assumption | exact up_s | (rw [up_n (by omega)]; first | assumption | exact up_s | (rw [up_n (by omega)]; first | assumption | exact up_s | (rw [up_n (by omega)]; first | assumption | exact up_s | (rw [up_n (by omega)]; first | assumption | exact up_s | (rw [up_n (by omega)]; first | assumption | exact up_s | (rw [up_n (by omega)]; first | assumption | exact up_s | (rw [up_n (by omega)]; first | assumption | exact up_s | (rw [up_n (by omega)]; first | assumption | exact up_s | (rw [up_n (by omega)]; first | assumption | exact up_s | (rw [up_n (by omega)]; first | assumption | exact up_s | (rw [up_n (by omega)]; first | assumption | exact up_s)))))))))))) rfl (c_orderAtM G hm ho (x := nI i) ⟨i, hi, rfl⟩) (m5 (gT_in q325 rfl) (gT_in q327 rfl) (gT_in q3 rfl) (gT_in q55 rfl) (gT_in q328 rfl)) rfl (show kpar yX7_orderAt 1 from ⟨by decide, by decide, by decide +kernel⟩) ⟨by decide, by decide⟩ (by show _ ≤ (0 : Nat); omega) (by show _ ≤ (0 : Nat); omega) rfl (by decide) dX7_ofOrder_2 (fun v ad2 ct2 H locs hp hW hS => ?_)
  obtain ⟨z9, hz9, hzj, rfl, h1, h2⟩ := hp
  obtain rfl : i = z9 := (nI_eq (by omega) (by omega)).mp hzj
  rw [h1, h2] at hW
  refine k_ast_n hx hb hL (i := 3) rfl (by decide) dX7_ofOrder_5 (fun ls hL => ?_)
  obtain ⟨oo, ob, os, oa, op, ow, oms, o5, ok, opos, ost⟩ := hm.ord ho hi
  refine lv_iload_n hx hb dX7_ofOrder_6 rfl (hL.at 2 rfl) ?_
  rcases (show wk = 0 ∨ wk = 1 ∨ wk = 2 ∨ wk = 3 ∨ wk = 4 ∨ wk = 5 ∨ wk = 6 ∨ wk = 7 by omega) with rfl | rfl | rfl | rfl | rfl | rfl | rfl | rfl
  · refine lv_tableIn (tgt := 52) hx hb dX7_ofOrder_7 (by decide) (by decide) rfl (by decide) ?_
    refine lv_aload_n hx hb dX7_ofOrder_52 rfl (hL.at 3 rfl) ?_
    refine k_getN (ci := 4) (C := RX2) (T := TX2) (N := 10) hx hb hts w_RX2 hown hK hW (by first | assumption | exact up_s | (rw [up_n (by omega)]; first | assumption | exact up_s | (rw [up_n (by omega)]; first | assumption | exact up_s | (rw [up_n (by omega)]; first | assumption | exact up_s | (rw [up_n (by omega)]; first | assumption | exact up_s | (rw [up_n (by omega)]; first | assumption | exact up_s | (rw [up_n (by omega)]; first | assumption | exact up_s | (rw [up_n (by omega)]; first | assumption | exact up_s | (rw [up_n (by omega)]; first | assumption | exact up_s | (rw [up_n (by omega)]; first | assumption | exact up_s | (rw [up_n (by omega)]; first | assumption | exact up_s | (rw [up_n (by omega)]; first | assumption | exact up_s)))))))))))) rfl 0 (by decide) (hq _ q671 rfl) (fun _ h9 => h9) (by rfl) dX7_ofOrder_53 ?_
    refine k_getN (ci := 5) (C := RX3) (T := TX3) (N := 5) hx hb hts w_RX3 hown hK hW (by first | assumption | exact up_s | (rw [up_n (by omega)]; first | assumption | exact up_s | (rw [up_n (by omega)]; first | assumption | exact up_s | (rw [up_n (by omega)]; first | assumption | exact up_s | (rw [up_n (by omega)]; first | assumption | exact up_s | (rw [up_n (by omega)]; first | assumption | exact up_s | (rw [up_n (by omega)]; first | assumption | exact up_s | (rw [up_n (by omega)]; first | assumption | exact up_s | (rw [up_n (by omega)]; first | assumption | exact up_s | (rw [up_n (by omega)]; first | assumption | exact up_s | (rw [up_n (by omega)]; first | assumption | exact up_s | (rw [up_n (by omega)]; first | assumption | exact up_s)))))))))))) rfl 0 (by decide) (hq _ q524 rfl) (fun _ h9 => h9) (by rfl) dX7_ofOrder_56 ?_
    rw [hQ]
    exact k_iret hx hb hr hlocks hW hS (by omega) (by omega) dX7_ofOrder_59 (⟨rfl, rfl, rfl⟩)
  · refine lv_tableIn (tgt := 60) hx hb dX7_ofOrder_7 (by decide) (by decide) rfl (by decide) ?_
    refine lv_aload_n hx hb dX7_ofOrder_60 rfl (hL.at 3 rfl) ?_
    refine k_getN (ci := 4) (C := RX2) (T := TX2) (N := 10) hx hb hts w_RX2 hown hK hW (by first | assumption | exact up_s | (rw [up_n (by omega)]; first | assumption | exact up_s | (rw [up_n (by omega)]; first | assumption | exact up_s | (rw [up_n (by omega)]; first | assumption | exact up_s | (rw [up_n (by omega)]; first | assumption | exact up_s | (rw [up_n (by omega)]; first | assumption | exact up_s | (rw [up_n (by omega)]; first | assumption | exact up_s | (rw [up_n (by omega)]; first | assumption | exact up_s | (rw [up_n (by omega)]; first | assumption | exact up_s | (rw [up_n (by omega)]; first | assumption | exact up_s | (rw [up_n (by omega)]; first | assumption | exact up_s | (rw [up_n (by omega)]; first | assumption | exact up_s)))))))))))) rfl 1 (by decide) (hq _ q674 rfl) (fun _ h9 => h9) (by rfl) dX7_ofOrder_61 ?_
    refine k_getN (ci := 7) (C := RX5) (T := TX5) (N := 5) hx hb hts w_RX5 hown hK hW (by first | assumption | exact up_s | (rw [up_n (by omega)]; first | assumption | exact up_s | (rw [up_n (by omega)]; first | assumption | exact up_s | (rw [up_n (by omega)]; first | assumption | exact up_s | (rw [up_n (by omega)]; first | assumption | exact up_s | (rw [up_n (by omega)]; first | assumption | exact up_s | (rw [up_n (by omega)]; first | assumption | exact up_s | (rw [up_n (by omega)]; first | assumption | exact up_s | (rw [up_n (by omega)]; first | assumption | exact up_s | (rw [up_n (by omega)]; first | assumption | exact up_s | (rw [up_n (by omega)]; first | assumption | exact up_s | (rw [up_n (by omega)]; first | assumption | exact up_s)))))))))))) rfl 0 (by decide) (hq _ q574 rfl) (fun _ h9 => h9) (by rfl) dX7_ofOrder_64 ?_
    rw [hQ]
    exact k_iret hx hb hr hlocks hW hS (by omega) (by omega) dX7_ofOrder_67 (⟨rfl, rfl, rfl⟩)
  · refine lv_tableIn (tgt := 68) hx hb dX7_ofOrder_7 (by decide) (by decide) rfl (by decide) ?_
    refine lv_aload_n hx hb dX7_ofOrder_68 rfl (hL.at 3 rfl) ?_
    refine k_getN (ci := 4) (C := RX2) (T := TX2) (N := 10) hx hb hts w_RX2 hown hK hW (by first | assumption | exact up_s | (rw [up_n (by omega)]; first | assumption | exact up_s | (rw [up_n (by omega)]; first | assumption | exact up_s | (rw [up_n (by omega)]; first | assumption | exact up_s | (rw [up_n (by omega)]; first | assumption | exact up_s | (rw [up_n (by omega)]; first | assumption | exact up_s | (rw [up_n (by omega)]; first | assumption | exact up_s | (rw [up_n (by omega)]; first | assumption | exact up_s | (rw [up_n (by omega)]; first | assumption | exact up_s | (rw [up_n (by omega)]; first | assumption | exact up_s | (rw [up_n (by omega)]; first | assumption | exact up_s | (rw [up_n (by omega)]; first | assumption | exact up_s)))))))))))) rfl 2 (by decide) (hq _ q676 rfl) (fun _ h9 => h9) (by rfl) dX7_ofOrder_69 ?_
    rw [hQ]
    exact k_iret hx hb hr hlocks hW hS (by omega) (by omega) dX7_ofOrder_72 (⟨rfl, rfl, rfl⟩)
  · refine lv_tableIn (tgt := 73) hx hb dX7_ofOrder_7 (by decide) (by decide) rfl (by decide) ?_
    refine lv_aload_n hx hb dX7_ofOrder_73 rfl (hL.at 3 rfl) ?_
    refine k_getN (ci := 4) (C := RX2) (T := TX2) (N := 10) hx hb hts w_RX2 hown hK hW (by first | assumption | exact up_s | (rw [up_n (by omega)]; first | assumption | exact up_s | (rw [up_n (by omega)]; first | assumption | exact up_s | (rw [up_n (by omega)]; first | assumption | exact up_s | (rw [up_n (by omega)]; first | assumption | exact up_s | (rw [up_n (by omega)]; first | assumption | exact up_s | (rw [up_n (by omega)]; first | assumption | exact up_s | (rw [up_n (by omega)]; first | assumption | exact up_s | (rw [up_n (by omega)]; first | assumption | exact up_s | (rw [up_n (by omega)]; first | assumption | exact up_s | (rw [up_n (by omega)]; first | assumption | exact up_s | (rw [up_n (by omega)]; first | assumption | exact up_s)))))))))))) rfl 4 (by decide) (hq _ q679 rfl) (fun _ h9 => h9) (by rfl) dX7_ofOrder_74 ?_
    rw [hQ]
    exact k_iret hx hb hr hlocks hW hS (by omega) (by omega) dX7_ofOrder_77 (⟨rfl, rfl, rfl⟩)
  · refine lv_tableIn (tgt := 78) hx hb dX7_ofOrder_7 (by decide) (by decide) rfl (by decide) ?_
    refine lv_aload_n hx hb dX7_ofOrder_78 rfl (hL.at 3 rfl) ?_
    refine k_getN (ci := 4) (C := RX2) (T := TX2) (N := 10) hx hb hts w_RX2 hown hK hW (by first | assumption | exact up_s | (rw [up_n (by omega)]; first | assumption | exact up_s | (rw [up_n (by omega)]; first | assumption | exact up_s | (rw [up_n (by omega)]; first | assumption | exact up_s | (rw [up_n (by omega)]; first | assumption | exact up_s | (rw [up_n (by omega)]; first | assumption | exact up_s | (rw [up_n (by omega)]; first | assumption | exact up_s | (rw [up_n (by omega)]; first | assumption | exact up_s | (rw [up_n (by omega)]; first | assumption | exact up_s | (rw [up_n (by omega)]; first | assumption | exact up_s | (rw [up_n (by omega)]; first | assumption | exact up_s | (rw [up_n (by omega)]; first | assumption | exact up_s)))))))))))) rfl 5 (by decide) (hq _ q681 rfl) (fun _ h9 => h9) (by rfl) dX7_ofOrder_79 ?_
    rw [hQ]
    exact k_iret hx hb hr hlocks hW hS (by omega) (by omega) dX7_ofOrder_82 (⟨rfl, rfl, rfl⟩)
  · refine lv_tableIn (tgt := 83) hx hb dX7_ofOrder_7 (by decide) (by decide) rfl (by decide) ?_
    refine lv_aload_n hx hb dX7_ofOrder_83 rfl (hL.at 3 rfl) ?_
    refine k_getN (ci := 4) (C := RX2) (T := TX2) (N := 10) hx hb hts w_RX2 hown hK hW (by first | assumption | exact up_s | (rw [up_n (by omega)]; first | assumption | exact up_s | (rw [up_n (by omega)]; first | assumption | exact up_s | (rw [up_n (by omega)]; first | assumption | exact up_s | (rw [up_n (by omega)]; first | assumption | exact up_s | (rw [up_n (by omega)]; first | assumption | exact up_s | (rw [up_n (by omega)]; first | assumption | exact up_s | (rw [up_n (by omega)]; first | assumption | exact up_s | (rw [up_n (by omega)]; first | assumption | exact up_s | (rw [up_n (by omega)]; first | assumption | exact up_s | (rw [up_n (by omega)]; first | assumption | exact up_s | (rw [up_n (by omega)]; first | assumption | exact up_s)))))))))))) rfl 1 (by decide) (hq _ q674 rfl) (fun _ h9 => h9) (by rfl) dX7_ofOrder_84 ?_
    refine k_getN (ci := 7) (C := RX5) (T := TX5) (N := 5) hx hb hts w_RX5 hown hK hW (by first | assumption | exact up_s | (rw [up_n (by omega)]; first | assumption | exact up_s | (rw [up_n (by omega)]; first | assumption | exact up_s | (rw [up_n (by omega)]; first | assumption | exact up_s | (rw [up_n (by omega)]; first | assumption | exact up_s | (rw [up_n (by omega)]; first | assumption | exact up_s | (rw [up_n (by omega)]; first | assumption | exact up_s | (rw [up_n (by omega)]; first | assumption | exact up_s | (rw [up_n (by omega)]; first | assumption | exact up_s | (rw [up_n (by omega)]; first | assumption | exact up_s | (rw [up_n (by omega)]; first | assumption | exact up_s | (rw [up_n (by omega)]; first | assumption | exact up_s)))))))))))) rfl 3 (by decide) (hq _ q582 rfl) (fun _ h9 => h9) (by rfl) dX7_ofOrder_87 ?_
    rw [hQ]
    exact k_iret hx hb hr hlocks hW hS (by omega) (by omega) dX7_ofOrder_90 (⟨rfl, rfl, rfl⟩)
  · refine lv_tableIn (tgt := 91) hx hb dX7_ofOrder_7 (by decide) (by decide) rfl (by decide) ?_
    refine lv_aload_n hx hb dX7_ofOrder_91 rfl (hL.at 3 rfl) ?_
    refine k_getN (ci := 4) (C := RX2) (T := TX2) (N := 10) hx hb hts w_RX2 hown hK hW (by first | assumption | exact up_s | (rw [up_n (by omega)]; first | assumption | exact up_s | (rw [up_n (by omega)]; first | assumption | exact up_s | (rw [up_n (by omega)]; first | assumption | exact up_s | (rw [up_n (by omega)]; first | assumption | exact up_s | (rw [up_n (by omega)]; first | assumption | exact up_s | (rw [up_n (by omega)]; first | assumption | exact up_s | (rw [up_n (by omega)]; first | assumption | exact up_s | (rw [up_n (by omega)]; first | assumption | exact up_s | (rw [up_n (by omega)]; first | assumption | exact up_s | (rw [up_n (by omega)]; first | assumption | exact up_s | (rw [up_n (by omega)]; first | assumption | exact up_s)))))))))))) rfl 9 (by decide) (hq _ q689 rfl) (fun _ h9 => h9) (by rfl) dX7_ofOrder_92 ?_
    rw [hQ]
    exact k_iret hx hb hr hlocks hW hS (by omega) (by omega) dX7_ofOrder_95 (⟨rfl, rfl, rfl⟩)
  · refine lv_tableIn (tgt := 96) hx hb dX7_ofOrder_7 (by decide) (by decide) rfl (by decide) ?_
    refine lv_aload_n hx hb dX7_ofOrder_96 rfl (hL.at 3 rfl) ?_
    refine k_getN (ci := 4) (C := RX2) (T := TX2) (N := 10) hx hb hts w_RX2 hown hK hW (by first | assumption | exact up_s | (rw [up_n (by omega)]; first | assumption | exact up_s | (rw [up_n (by omega)]; first | assumption | exact up_s | (rw [up_n (by omega)]; first | assumption | exact up_s | (rw [up_n (by omega)]; first | assumption | exact up_s | (rw [up_n (by omega)]; first | assumption | exact up_s | (rw [up_n (by omega)]; first | assumption | exact up_s | (rw [up_n (by omega)]; first | assumption | exact up_s | (rw [up_n (by omega)]; first | assumption | exact up_s | (rw [up_n (by omega)]; first | assumption | exact up_s | (rw [up_n (by omega)]; first | assumption | exact up_s | (rw [up_n (by omega)]; first | assumption | exact up_s)))))))))))) rfl 7 (by decide) (hq _ q685 rfl) (fun _ h9 => h9) (by rfl) dX7_ofOrder_97 ?_
    rw [hQ]
    exact k_iret hx hb hr hlocks hW hS (by omega) (by omega) dX7_ofOrder_100 (⟨rfl, rfl, rfl⟩)

set_option maxHeartbeats 4000000 in
set_option maxRecDepth 100000 in
/-- TailorBench.many  -/
theorem c_qmany {l : Launch} {D : va_G} {cy : Nat → ClassId} {sad : Nat → Nat} {em : Nat} {s0 : State} {a0 : Array Value} (G : kG kSTR l D cy sad em s0 a0) {ad : Nat → Nat} {ct : Nat → Option va_E} {M : tM} (hm : RepC cy ad ct M) (ho : okM M) (wh : Int32) :
    KX l yX7_many [.code yX7_many prog_1_method_24_code 2 (some .int)] 7 120 2 12 [.ref (ad 1), .int wh] D s0 ad ct (fun v ad' ct' => ∃ wk, wk < 14 ∧ wh = nI wk ∧ v = some (.int (fMany M wk)) ∧ ad' = ad ∧ ct' = ct) (fun E => E = eArg ∧ ¬ kIn wh 14) := by
  refine KX.of G (by decide) (Nat.le_of_ble_eq_true rfl) (Nat.le_of_ble_eq_true rfl) ?_
  intro p e s m args below meth c ls Q hQ X hin hL hW hS
  obtain ⟨hx, hb, hr, hml, hown, hlocks, hts, hq, hK, hI⟩ := X
  have hs1 := hm.1
  obtain ⟨w0, hw0⟩ : ∃ z, z = wh := ⟨_, rfl⟩
  refine lv_iload_n hx hb dX7_many_0 rfl (hL.at 1 rfl) ?_
  rcases (tsw14 wh) with rfl | rfl | rfl | rfl | rfl | rfl | rfl | rfl | rfl | rfl | rfl | rfl | rfl | rfl | hout1
  · refine lv_tableIn (tgt := 72) hx hb dX7_many_1 (by decide) (by decide) rfl (by decide) ?_
    refine lv_aload_n hx hb dX7_many_72 rfl (hL.at 0 rfl) ?_
    refine k_get (ci := 9) (C := RX7) (T := TX7) (N := 15) hx hb hts w_RX7 hown hK hW (by first | assumption | exact up_s | (rw [up_n (by omega)]; first | assumption | exact up_s | (rw [up_n (by omega)]; first | assumption | exact up_s | (rw [up_n (by omega)]; first | assumption | exact up_s | (rw [up_n (by omega)]; first | assumption | exact up_s | (rw [up_n (by omega)]; first | assumption | exact up_s | (rw [up_n (by omega)]; first | assumption | exact up_s | (rw [up_n (by omega)]; first | assumption | exact up_s | (rw [up_n (by omega)]; first | assumption | exact up_s | (rw [up_n (by omega)]; first | assumption | exact up_s | (rw [up_n (by omega)]; first | assumption | exact up_s | (rw [up_n (by omega)]; first | assumption | exact up_s)))))))))))) rfl 6 (by decide) (hq _ q155 rfl) (fun _ h9 => h9) (by rfl) dX7_many_73 ?_
    rw [hQ]
    exact vx_ret (k_iret hx hb hr hlocks hW hS (by omega) (by omega) dX7_many_76 (⟨0, by decide, rfl, rfl, rfl, rfl⟩))
  · refine lv_tableIn (tgt := 77) hx hb dX7_many_1 (by decide) (by decide) rfl (by decide) ?_
    refine lv_aload_n hx hb dX7_many_77 rfl (hL.at 0 rfl) ?_
    refine k_get (ci := 9) (C := RX7) (T := TX7) (N := 15) hx hb hts w_RX7 hown hK hW (by first | assumption | exact up_s | (rw [up_n (by omega)]; first | assumption | exact up_s | (rw [up_n (by omega)]; first | assumption | exact up_s | (rw [up_n (by omega)]; first | assumption | exact up_s | (rw [up_n (by omega)]; first | assumption | exact up_s | (rw [up_n (by omega)]; first | assumption | exact up_s | (rw [up_n (by omega)]; first | assumption | exact up_s | (rw [up_n (by omega)]; first | assumption | exact up_s | (rw [up_n (by omega)]; first | assumption | exact up_s | (rw [up_n (by omega)]; first | assumption | exact up_s | (rw [up_n (by omega)]; first | assumption | exact up_s | (rw [up_n (by omega)]; first | assumption | exact up_s)))))))))))) rfl 7 (by decide) (hq _ q156 rfl) (fun _ h9 => h9) (by rfl) dX7_many_78 ?_
    rw [hQ]
    exact vx_ret (k_iret hx hb hr hlocks hW hS (by omega) (by omega) dX7_many_81 (⟨1, by decide, rfl, rfl, rfl, rfl⟩))
  · refine lv_tableIn (tgt := 82) hx hb dX7_many_1 (by decide) (by decide) rfl (by decide) ?_
    refine lv_aload_n hx hb dX7_many_82 rfl (hL.at 0 rfl) ?_
    refine k_get (ci := 9) (C := RX7) (T := TX7) (N := 15) hx hb hts w_RX7 hown hK hW (by first | assumption | exact up_s | (rw [up_n (by omega)]; first | assumption | exact up_s | (rw [up_n (by omega)]; first | assumption | exact up_s | (rw [up_n (by omega)]; first | assumption | exact up_s | (rw [up_n (by omega)]; first | assumption | exact up_s | (rw [up_n (by omega)]; first | assumption | exact up_s | (rw [up_n (by omega)]; first | assumption | exact up_s | (rw [up_n (by omega)]; first | assumption | exact up_s | (rw [up_n (by omega)]; first | assumption | exact up_s | (rw [up_n (by omega)]; first | assumption | exact up_s | (rw [up_n (by omega)]; first | assumption | exact up_s | (rw [up_n (by omega)]; first | assumption | exact up_s)))))))))))) rfl 8 (by decide) (hq _ q157 rfl) (fun _ h9 => h9) (by rfl) dX7_many_83 ?_
    rw [hQ]
    exact vx_ret (k_iret hx hb hr hlocks hW hS (by omega) (by omega) dX7_many_86 (⟨2, by decide, rfl, rfl, rfl, rfl⟩))
  · refine lv_tableIn (tgt := 87) hx hb dX7_many_1 (by decide) (by decide) rfl (by decide) ?_
    refine lv_aload_n hx hb dX7_many_87 rfl (hL.at 0 rfl) ?_
    refine k_get (ci := 9) (C := RX7) (T := TX7) (N := 15) hx hb hts w_RX7 hown hK hW (by first | assumption | exact up_s | (rw [up_n (by omega)]; first | assumption | exact up_s | (rw [up_n (by omega)]; first | assumption | exact up_s | (rw [up_n (by omega)]; first | assumption | exact up_s | (rw [up_n (by omega)]; first | assumption | exact up_s | (rw [up_n (by omega)]; first | assumption | exact up_s | (rw [up_n (by omega)]; first | assumption | exact up_s | (rw [up_n (by omega)]; first | assumption | exact up_s | (rw [up_n (by omega)]; first | assumption | exact up_s | (rw [up_n (by omega)]; first | assumption | exact up_s | (rw [up_n (by omega)]; first | assumption | exact up_s | (rw [up_n (by omega)]; first | assumption | exact up_s)))))))))))) rfl 9 (by decide) (hq _ q158 rfl) (fun _ h9 => h9) (by rfl) dX7_many_88 ?_
    rw [hQ]
    exact vx_ret (k_iret hx hb hr hlocks hW hS (by omega) (by omega) dX7_many_91 (⟨3, by decide, rfl, rfl, rfl, rfl⟩))
  · refine lv_tableIn (tgt := 92) hx hb dX7_many_1 (by decide) (by decide) rfl (by decide) ?_
    refine lv_aload_n hx hb dX7_many_92 rfl (hL.at 0 rfl) ?_
    refine k_get (ci := 9) (C := RX7) (T := TX7) (N := 15) hx hb hts w_RX7 hown hK hW (by first | assumption | exact up_s | (rw [up_n (by omega)]; first | assumption | exact up_s | (rw [up_n (by omega)]; first | assumption | exact up_s | (rw [up_n (by omega)]; first | assumption | exact up_s | (rw [up_n (by omega)]; first | assumption | exact up_s | (rw [up_n (by omega)]; first | assumption | exact up_s | (rw [up_n (by omega)]; first | assumption | exact up_s | (rw [up_n (by omega)]; first | assumption | exact up_s | (rw [up_n (by omega)]; first | assumption | exact up_s | (rw [up_n (by omega)]; first | assumption | exact up_s | (rw [up_n (by omega)]; first | assumption | exact up_s | (rw [up_n (by omega)]; first | assumption | exact up_s)))))))))))) rfl 10 (by decide) (hq _ q159 rfl) (fun _ h9 => h9) (by rfl) dX7_many_93 ?_
    rw [hQ]
    exact vx_ret (k_iret hx hb hr hlocks hW hS (by omega) (by omega) dX7_many_96 (⟨4, by decide, rfl, rfl, rfl, rfl⟩))
  · refine lv_tableIn (tgt := 97) hx hb dX7_many_1 (by decide) (by decide) rfl (by decide) ?_
    refine lv_aload_n hx hb dX7_many_97 rfl (hL.at 0 rfl) ?_
    refine lv_iload_n hx hb dX7_many_98 rfl (hL.at 1 rfl) ?_
    refine lv_iconst (v := 5) hx hb dX7_many_99 (by decide) ?_
    refine lv_isub hx hb dX7_many_100 ?_
    refine lv_topi (fun y hy => ?_)
    obtain ⟨st, hst, hy2, hw2⟩ : ∃ st : Nat, st < 6 ∧ y = nI st ∧ w0 = nI (st + 5) := by first | exact ⟨0, by decide, hy, hw0⟩ | exact ⟨1, by decide, hy, hw0⟩ | exact ⟨2, by decide, hy, hw0⟩ | exact ⟨3, by decide, hy, hw0⟩ | exact ⟨4, by decide, hy, hw0⟩ | exact ⟨5, by decide, hy, hw0⟩
    subst hy2
    refine k_callV (q := (RX7, TX7, 15)) hx hb hml hown hts hK hI hS hW hL.1 (by first | assumption | exact up_s | (rw [up_n (by omega)]; first | assumption | exact up_s | (rw [up_n (by omega)]; first | assumption | exact up_s | (rw [up_n (by omega)]; first | assumption | exact up_s | (rw [up_n (by omega)]; first | assumption | exact up_s | (rw [up_n (by omega)]; first | assumption | exact up_s | (rw [up_n (by omega)]; first | assumption | exact up_s | (rw [up_n (by omega)]; first | assumption | exact up_s | (rw [up_n (by omega)]; first | assumption | exact up_s | (rw [up_n (by omega)]; first | assumption | exact up_s | (rw [up_n (by omega)]; first | assumption | exact up_s | (rw [up_n (by omega)]; first | assumption | exact up_s)))))))))))) rfl (c_countIn G hm ho st hst) (m5 (gT_in q216 rfl) (gT_in q218 rfl) (gT_in q0 rfl) (gT_in q55 rfl) (gT_in q219 rfl)) rfl (show kpar yX7_countInState 1 from ⟨by decide, by decide, by decide +kernel⟩) ⟨by decide, by decide⟩ (by show _ ≤ (2 : Nat); omega) (by show _ ≤ (12 : Nat); omega) rfl (by decide) dX7_many_101 (fun v ad101 ct101 H locs hp hW hS => ?_)
    obtain ⟨rfl, h1, h2⟩ := hp
    rw [h1, h2] at hW
    rw [hQ]
    exact vx_ret (k_iret hx hb hr hlocks hW hS (by omega) (by omega) dX7_many_104 (⟨st + 5, by omega, hw0.symm.trans hw2, by rw [fMany_st hst], rfl, rfl⟩))
  · refine lv_tableIn (tgt := 97) hx hb dX7_many_1 (by decide) (by decide) rfl (by decide) ?_
    refine lv_aload_n hx hb dX7_many_97 rfl (hL.at 0 rfl) ?_
    refine lv_iload_n hx hb dX7_many_98 rfl (hL.at 1 rfl) ?_
    refine lv_iconst (v := 5) hx hb dX7_many_99 (by decide) ?_
    refine lv_isub hx hb dX7_many_100 ?_
    refine lv_topi (fun y hy => ?_)
    obtain ⟨st, hst, hy2, hw2⟩ : ∃ st : Nat, st < 6 ∧ y = nI st ∧ w0 = nI (st + 5) := by first | exact ⟨0, by decide, hy, hw0⟩ | exact ⟨1, by decide, hy, hw0⟩ | exact ⟨2, by decide, hy, hw0⟩ | exact ⟨3, by decide, hy, hw0⟩ | exact ⟨4, by decide, hy, hw0⟩ | exact ⟨5, by decide, hy, hw0⟩
    subst hy2
    refine k_callV (q := (RX7, TX7, 15)) hx hb hml hown hts hK hI hS hW hL.1 (by first | assumption | exact up_s | (rw [up_n (by omega)]; first | assumption | exact up_s | (rw [up_n (by omega)]; first | assumption | exact up_s | (rw [up_n (by omega)]; first | assumption | exact up_s | (rw [up_n (by omega)]; first | assumption | exact up_s | (rw [up_n (by omega)]; first | assumption | exact up_s | (rw [up_n (by omega)]; first | assumption | exact up_s | (rw [up_n (by omega)]; first | assumption | exact up_s | (rw [up_n (by omega)]; first | assumption | exact up_s | (rw [up_n (by omega)]; first | assumption | exact up_s | (rw [up_n (by omega)]; first | assumption | exact up_s | (rw [up_n (by omega)]; first | assumption | exact up_s)))))))))))) rfl (c_countIn G hm ho st hst) (m5 (gT_in q216 rfl) (gT_in q218 rfl) (gT_in q0 rfl) (gT_in q55 rfl) (gT_in q219 rfl)) rfl (show kpar yX7_countInState 1 from ⟨by decide, by decide, by decide +kernel⟩) ⟨by decide, by decide⟩ (by show _ ≤ (2 : Nat); omega) (by show _ ≤ (12 : Nat); omega) rfl (by decide) dX7_many_101 (fun v ad101 ct101 H locs hp hW hS => ?_)
    obtain ⟨rfl, h1, h2⟩ := hp
    rw [h1, h2] at hW
    rw [hQ]
    exact vx_ret (k_iret hx hb hr hlocks hW hS (by omega) (by omega) dX7_many_104 (⟨st + 5, by omega, hw0.symm.trans hw2, by rw [fMany_st hst], rfl, rfl⟩))
  · refine lv_tableIn (tgt := 97) hx hb dX7_many_1 (by decide) (by decide) rfl (by decide) ?_
    refine lv_aload_n hx hb dX7_many_97 rfl (hL.at 0 rfl) ?_
    refine lv_iload_n hx hb dX7_many_98 rfl (hL.at 1 rfl) ?_
    refine lv_iconst (v := 5) hx hb dX7_many_99 (by decide) ?_
    refine lv_isub hx hb dX7_many_100 ?_
    refine lv_topi (fun y hy => ?_)
    obtain ⟨st, hst, hy2, hw2⟩ : ∃ st : Nat, st < 6 ∧ y = nI st ∧ w0 = nI (st + 5) := by first | exact ⟨0, by decide, hy, hw0⟩ | exact ⟨1, by decide, hy, hw0⟩ | exact ⟨2, by decide, hy, hw0⟩ | exact ⟨3, by decide, hy, hw0⟩ | exact ⟨4, by decide, hy, hw0⟩ | exact ⟨5, by decide, hy, hw0⟩
    subst hy2
    refine k_callV (q := (RX7, TX7, 15)) hx hb hml hown hts hK hI hS hW hL.1 (by first | assumption | exact up_s | (rw [up_n (by omega)]; first | assumption | exact up_s | (rw [up_n (by omega)]; first | assumption | exact up_s | (rw [up_n (by omega)]; first | assumption | exact up_s | (rw [up_n (by omega)]; first | assumption | exact up_s | (rw [up_n (by omega)]; first | assumption | exact up_s | (rw [up_n (by omega)]; first | assumption | exact up_s | (rw [up_n (by omega)]; first | assumption | exact up_s | (rw [up_n (by omega)]; first | assumption | exact up_s | (rw [up_n (by omega)]; first | assumption | exact up_s | (rw [up_n (by omega)]; first | assumption | exact up_s | (rw [up_n (by omega)]; first | assumption | exact up_s)))))))))))) rfl (c_countIn G hm ho st hst) (m5 (gT_in q216 rfl) (gT_in q218 rfl) (gT_in q0 rfl) (gT_in q55 rfl) (gT_in q219 rfl)) rfl (show kpar yX7_countInState 1 from ⟨by decide, by decide, by decide +kernel⟩) ⟨by decide, by decide⟩ (by show _ ≤ (2 : Nat); omega) (by show _ ≤ (12 : Nat); omega) rfl (by decide) dX7_many_101 (fun v ad101 ct101 H locs hp hW hS => ?_)
    obtain ⟨rfl, h1, h2⟩ := hp
    rw [h1, h2] at hW
    rw [hQ]
    exact vx_ret (k_iret hx hb hr hlocks hW hS (by omega) (by omega) dX7_many_104 (⟨st + 5, by omega, hw0.symm.trans hw2, by rw [fMany_st hst], rfl, rfl⟩))
  · refine lv_tableIn (tgt := 97) hx hb dX7_many_1 (by decide) (by decide) rfl (by decide) ?_
    refine lv_aload_n hx hb dX7_many_97 rfl (hL.at 0 rfl) ?_
    refine lv_iload_n hx hb dX7_many_98 rfl (hL.at 1 rfl) ?_
    refine lv_iconst (v := 5) hx hb dX7_many_99 (by decide) ?_
    refine lv_isub hx hb dX7_many_100 ?_
    refine lv_topi (fun y hy => ?_)
    obtain ⟨st, hst, hy2, hw2⟩ : ∃ st : Nat, st < 6 ∧ y = nI st ∧ w0 = nI (st + 5) := by first | exact ⟨0, by decide, hy, hw0⟩ | exact ⟨1, by decide, hy, hw0⟩ | exact ⟨2, by decide, hy, hw0⟩ | exact ⟨3, by decide, hy, hw0⟩ | exact ⟨4, by decide, hy, hw0⟩ | exact ⟨5, by decide, hy, hw0⟩
    subst hy2
    refine k_callV (q := (RX7, TX7, 15)) hx hb hml hown hts hK hI hS hW hL.1 (by first | assumption | exact up_s | (rw [up_n (by omega)]; first | assumption | exact up_s | (rw [up_n (by omega)]; first | assumption | exact up_s | (rw [up_n (by omega)]; first | assumption | exact up_s | (rw [up_n (by omega)]; first | assumption | exact up_s | (rw [up_n (by omega)]; first | assumption | exact up_s | (rw [up_n (by omega)]; first | assumption | exact up_s | (rw [up_n (by omega)]; first | assumption | exact up_s | (rw [up_n (by omega)]; first | assumption | exact up_s | (rw [up_n (by omega)]; first | assumption | exact up_s | (rw [up_n (by omega)]; first | assumption | exact up_s | (rw [up_n (by omega)]; first | assumption | exact up_s)))))))))))) rfl (c_countIn G hm ho st hst) (m5 (gT_in q216 rfl) (gT_in q218 rfl) (gT_in q0 rfl) (gT_in q55 rfl) (gT_in q219 rfl)) rfl (show kpar yX7_countInState 1 from ⟨by decide, by decide, by decide +kernel⟩) ⟨by decide, by decide⟩ (by show _ ≤ (2 : Nat); omega) (by show _ ≤ (12 : Nat); omega) rfl (by decide) dX7_many_101 (fun v ad101 ct101 H locs hp hW hS => ?_)
    obtain ⟨rfl, h1, h2⟩ := hp
    rw [h1, h2] at hW
    rw [hQ]
    exact vx_ret (k_iret hx hb hr hlocks hW hS (by omega) (by omega) dX7_many_104 (⟨st + 5, by omega, hw0.symm.trans hw2, by rw [fMany_st hst], rfl, rfl⟩))
  · refine lv_tableIn (tgt := 97) hx hb dX7_many_1 (by decide) (by decide) rfl (by decide) ?_
    refine lv_aload_n hx hb dX7_many_97 rfl (hL.at 0 rfl) ?_
    refine lv_iload_n hx hb dX7_many_98 rfl (hL.at 1 rfl) ?_
    refine lv_iconst (v := 5) hx hb dX7_many_99 (by decide) ?_
    refine lv_isub hx hb dX7_many_100 ?_
    refine lv_topi (fun y hy => ?_)
    obtain ⟨st, hst, hy2, hw2⟩ : ∃ st : Nat, st < 6 ∧ y = nI st ∧ w0 = nI (st + 5) := by first | exact ⟨0, by decide, hy, hw0⟩ | exact ⟨1, by decide, hy, hw0⟩ | exact ⟨2, by decide, hy, hw0⟩ | exact ⟨3, by decide, hy, hw0⟩ | exact ⟨4, by decide, hy, hw0⟩ | exact ⟨5, by decide, hy, hw0⟩
    subst hy2
    refine k_callV (q := (RX7, TX7, 15)) hx hb hml hown hts hK hI hS hW hL.1 (by first | assumption | exact up_s | (rw [up_n (by omega)]; first | assumption | exact up_s | (rw [up_n (by omega)]; first | assumption | exact up_s | (rw [up_n (by omega)]; first | assumption | exact up_s | (rw [up_n (by omega)]; first | assumption | exact up_s | (rw [up_n (by omega)]; first | assumption | exact up_s | (rw [up_n (by omega)]; first | assumption | exact up_s | (rw [up_n (by omega)]; first | assumption | exact up_s | (rw [up_n (by omega)]; first | assumption | exact up_s | (rw [up_n (by omega)]; first | assumption | exact up_s | (rw [up_n (by omega)]; first | assumption | exact up_s | (rw [up_n (by omega)]; first | assumption | exact up_s)))))))))))) rfl (c_countIn G hm ho st hst) (m5 (gT_in q216 rfl) (gT_in q218 rfl) (gT_in q0 rfl) (gT_in q55 rfl) (gT_in q219 rfl)) rfl (show kpar yX7_countInState 1 from ⟨by decide, by decide, by decide +kernel⟩) ⟨by decide, by decide⟩ (by show _ ≤ (2 : Nat); omega) (by show _ ≤ (12 : Nat); omega) rfl (by decide) dX7_many_101 (fun v ad101 ct101 H locs hp hW hS => ?_)
    obtain ⟨rfl, h1, h2⟩ := hp
    rw [h1, h2] at hW
    rw [hQ]
    exact vx_ret (k_iret hx hb hr hlocks hW hS (by omega) (by omega) dX7_many_104 (⟨st + 5, by omega, hw0.symm.trans hw2, by rw [fMany_st hst], rfl, rfl⟩))
  · refine lv_tableIn (tgt := 97) hx hb dX7_many_1 (by decide) (by decide) rfl (by decide) ?_
    refine lv_aload_n hx hb dX7_many_97 rfl (hL.at 0 rfl) ?_
    refine lv_iload_n hx hb dX7_many_98 rfl (hL.at 1 rfl) ?_
    refine lv_iconst (v := 5) hx hb dX7_many_99 (by decide) ?_
    refine lv_isub hx hb dX7_many_100 ?_
    refine lv_topi (fun y hy => ?_)
    obtain ⟨st, hst, hy2, hw2⟩ : ∃ st : Nat, st < 6 ∧ y = nI st ∧ w0 = nI (st + 5) := by first | exact ⟨0, by decide, hy, hw0⟩ | exact ⟨1, by decide, hy, hw0⟩ | exact ⟨2, by decide, hy, hw0⟩ | exact ⟨3, by decide, hy, hw0⟩ | exact ⟨4, by decide, hy, hw0⟩ | exact ⟨5, by decide, hy, hw0⟩
    subst hy2
    refine k_callV (q := (RX7, TX7, 15)) hx hb hml hown hts hK hI hS hW hL.1 (by first | assumption | exact up_s | (rw [up_n (by omega)]; first | assumption | exact up_s | (rw [up_n (by omega)]; first | assumption | exact up_s | (rw [up_n (by omega)]; first | assumption | exact up_s | (rw [up_n (by omega)]; first | assumption | exact up_s | (rw [up_n (by omega)]; first | assumption | exact up_s | (rw [up_n (by omega)]; first | assumption | exact up_s | (rw [up_n (by omega)]; first | assumption | exact up_s | (rw [up_n (by omega)]; first | assumption | exact up_s | (rw [up_n (by omega)]; first | assumption | exact up_s | (rw [up_n (by omega)]; first | assumption | exact up_s | (rw [up_n (by omega)]; first | assumption | exact up_s)))))))))))) rfl (c_countIn G hm ho st hst) (m5 (gT_in q216 rfl) (gT_in q218 rfl) (gT_in q0 rfl) (gT_in q55 rfl) (gT_in q219 rfl)) rfl (show kpar yX7_countInState 1 from ⟨by decide, by decide, by decide +kernel⟩) ⟨by decide, by decide⟩ (by show _ ≤ (2 : Nat); omega) (by show _ ≤ (12 : Nat); omega) rfl (by decide) dX7_many_101 (fun v ad101 ct101 H locs hp hW hS => ?_)
    obtain ⟨rfl, h1, h2⟩ := hp
    rw [h1, h2] at hW
    rw [hQ]
    exact vx_ret (k_iret hx hb hr hlocks hW hS (by omega) (by omega) dX7_many_104 (⟨st + 5, by omega, hw0.symm.trans hw2, by rw [fMany_st hst], rfl, rfl⟩))
  · refine lv_tableIn (tgt := 105) hx hb dX7_many_1 (by decide) (by decide) rfl (by decide) ?_
    refine lv_aload_n hx hb dX7_many_105 rfl (hL.at 0 rfl) ?_
    refine k_get (ci := 9) (C := RX7) (T := TX7) (N := 15) hx hb hts w_RX7 hown hK hW (by first | assumption | exact up_s | (rw [up_n (by omega)]; first | assumption | exact up_s | (rw [up_n (by omega)]; first | assumption | exact up_s | (rw [up_n (by omega)]; first | assumption | exact up_s | (rw [up_n (by omega)]; first | assumption | exact up_s | (rw [up_n (by omega)]; first | assumption | exact up_s | (rw [up_n (by omega)]; first | assumption | exact up_s | (rw [up_n (by omega)]; first | assumption | exact up_s | (rw [up_n (by omega)]; first | assumption | exact up_s | (rw [up_n (by omega)]; first | assumption | exact up_s | (rw [up_n (by omega)]; first | assumption | exact up_s | (rw [up_n (by omega)]; first | assumption | exact up_s)))))))))))) rfl 12 (by decide) (hq _ q161 rfl) (fun _ h9 => h9) (by rfl) dX7_many_106 ?_
    rw [hQ]
    exact vx_ret (k_iret hx hb hr hlocks hW hS (by omega) (by omega) dX7_many_109 (⟨11, by decide, rfl, rfl, rfl, rfl⟩))
  · refine lv_tableIn (tgt := 110) hx hb dX7_many_1 (by decide) (by decide) rfl (by decide) ?_
    refine lv_aload_n hx hb dX7_many_110 rfl (hL.at 0 rfl) ?_
    refine k_get (ci := 9) (C := RX7) (T := TX7) (N := 15) hx hb hts w_RX7 hown hK hW (by first | assumption | exact up_s | (rw [up_n (by omega)]; first | assumption | exact up_s | (rw [up_n (by omega)]; first | assumption | exact up_s | (rw [up_n (by omega)]; first | assumption | exact up_s | (rw [up_n (by omega)]; first | assumption | exact up_s | (rw [up_n (by omega)]; first | assumption | exact up_s | (rw [up_n (by omega)]; first | assumption | exact up_s | (rw [up_n (by omega)]; first | assumption | exact up_s | (rw [up_n (by omega)]; first | assumption | exact up_s | (rw [up_n (by omega)]; first | assumption | exact up_s | (rw [up_n (by omega)]; first | assumption | exact up_s | (rw [up_n (by omega)]; first | assumption | exact up_s)))))))))))) rfl 14 (by decide) (hq _ q163 rfl) (fun _ h9 => h9) (by rfl) dX7_many_111 ?_
    refine lv_if_eq (tgt := 121) hx hb dX7_many_114 (by decide) (fun c114 => ?_) (fun c114 => ?_)
    · try dsimp only at c114
      refine lv_iconst (v := 0) hx hb dX7_many_121 (by decide) ?_
      rw [hQ]
      exact vx_ret (k_iret hx hb hr hlocks hW hS (by omega) (by omega) dX7_many_122 (⟨12, by decide, rfl, by show _ = some (Value.int (if mShut M = 0 then 0 else 1)); first | exact (congrArg (fun z => some (Value.int z)) (if_pos c114)).symm | exact (congrArg (fun z => some (Value.int z)) (if_neg c114)).symm, rfl, rfl⟩))
    · try dsimp only at c114
      refine lv_iconst (v := 1) hx hb dX7_many_117 (by decide) ?_
      refine lv_goto (tgt := 122) hx hb dX7_many_118 (by decide) ?_
      rw [hQ]
      exact vx_ret (k_iret hx hb hr hlocks hW hS (by omega) (by omega) dX7_many_122 (⟨12, by decide, rfl, by show _ = some (Value.int (if mShut M = 0 then 0 else 1)); first | exact (congrArg (fun z => some (Value.int z)) (if_pos c114)).symm | exact (congrArg (fun z => some (Value.int z)) (if_neg c114)).symm, rfl, rfl⟩))
  · refine lv_tableIn (tgt := 123) hx hb dX7_many_1 (by decide) (by decide) rfl (by decide) ?_
    refine lv_aload_n hx hb dX7_many_123 rfl (hL.at 0 rfl) ?_
    refine k_get (ci := 9) (C := RX7) (T := TX7) (N := 15) hx hb hts w_RX7 hown hK hW (by first | assumption | exact up_s | (rw [up_n (by omega)]; first | assumption | exact up_s | (rw [up_n (by omega)]; first | assumption | exact up_s | (rw [up_n (by omega)]; first | assumption | exact up_s | (rw [up_n (by omega)]; first | assumption | exact up_s | (rw [up_n (by omega)]; first | assumption | exact up_s | (rw [up_n (by omega)]; first | assumption | exact up_s | (rw [up_n (by omega)]; first | assumption | exact up_s | (rw [up_n (by omega)]; first | assumption | exact up_s | (rw [up_n (by omega)]; first | assumption | exact up_s | (rw [up_n (by omega)]; first | assumption | exact up_s | (rw [up_n (by omega)]; first | assumption | exact up_s)))))))))))) rfl 13 (by decide) (hq _ q162 rfl) (fun _ h9 => h9) (by rfl) dX7_many_124 ?_
    rw [hQ]
    exact vx_ret (k_iret hx hb hr hlocks hW hS (by omega) (by omega) dX7_many_127 (⟨13, by decide, rfl, rfl, rfl, rfl⟩))
  · refine lv_tableOut (tgt := 128) hx hb dX7_many_1 hout1 (by decide) ?_
    rw [hQ]
    exact k_throwW G hx hb hlocks (names := ["java/lang/RuntimeException", "java/lang/Exception"]) hown hts hq hI (by decide) (by decide) (gT_in q220 rfl) (gT_in q64 rfl) 0 rfl (fun w hw => hq w (at_54 w hw).1 (at_54 w hw).2) ot_54 hW hS (hL.1.trans hml.symm) hin dX7_many_128 dX7_many_131 dX7_many_132 dX7_many_135 dX7_many_138 (by decide) (by decide) (by show _ ≤ (2 : Nat); omega) (by show _ ≤ (12 : Nat); omega) (by omega) (by omega) (⟨rfl, kIn_out hout1 (by decide)⟩)

set_option maxHeartbeats 4000000 in
set_option maxRecDepth 100000 in
/-- TailorBench.many  -/
theorem c_qmanyM {l : Launch} {D : va_G} {cy : Nat → ClassId} {sad : Nat → Nat} {em : Nat} {s0 : State} {a0 : Array Value} (G : kG kSTR l D cy sad em s0 a0) {ad : Nat → Nat} {ct : Nat → Option va_E} {M : tM} (hm : RepC cy ad ct M) (ho : okM M) {wk : Nat} (hwk : wk < 14) :
    KM l yX7_many [.code yX7_many prog_1_method_24_code 2 (some .int)] 1 30 0 0 [.ref (ad 1), .int (nI wk)] D s0 ad ct (fun v ad' ct' => v = some (.int (fMany M wk)) ∧ ad' = ad ∧ ct' = ct) := by
  refine KM.of G (by decide) (Nat.le_of_ble_eq_true rfl) (Nat.le_of_ble_eq_true rfl) ?_
  intro p e s m args below meth c ls Q hQ X hin hL hW hS
  obtain ⟨hx, hb, hr, hml, hown, hlocks, hts, hq, hK, hI⟩ := X
  have hs1 := hm.1
  obtain ⟨w0, hw0⟩ : ∃ z, z = wk := ⟨_, rfl⟩
  refine lv_iload_n hx hb dX7_many_0 rfl (hL.at 1 rfl) ?_
  rcases (show wk = 0 ∨ wk = 1 ∨ wk = 2 ∨ wk = 3 ∨ wk = 4 ∨ wk = 5 ∨ wk = 6 ∨ wk = 7 ∨ wk = 8 ∨ wk = 9 ∨ wk = 10 ∨ wk = 11 ∨ wk = 12 ∨ wk = 13 by omega) with rfl | rfl | rfl | rfl | rfl | rfl | rfl | rfl | rfl | rfl | rfl | rfl | rfl | rfl
  · refine lv_tableIn (tgt := 72) hx hb dX7_many_1 (by decide) (by decide) rfl (by decide) ?_
    refine lv_aload_n hx hb dX7_many_72 rfl (hL.at 0 rfl) ?_
    refine k_get (ci := 9) (C := RX7) (T := TX7) (N := 15) hx hb hts w_RX7 hown hK hW (by first | assumption | exact up_s | (rw [up_n (by omega)]; first | assumption | exact up_s | (rw [up_n (by omega)]; first | assumption | exact up_s | (rw [up_n (by omega)]; first | assumption | exact up_s | (rw [up_n (by omega)]; first | assumption | exact up_s | (rw [up_n (by omega)]; first | assumption | exact up_s | (rw [up_n (by omega)]; first | assumption | exact up_s | (rw [up_n (by omega)]; first | assumption | exact up_s | (rw [up_n (by omega)]; first | assumption | exact up_s | (rw [up_n (by omega)]; first | assumption | exact up_s | (rw [up_n (by omega)]; first | assumption | exact up_s | (rw [up_n (by omega)]; first | assumption | exact up_s)))))))))))) rfl 6 (by decide) (hq _ q155 rfl) (fun _ h9 => h9) (by rfl) dX7_many_73 ?_
    rw [hQ]
    exact k_iret hx hb hr hlocks hW hS (by omega) (by omega) dX7_many_76 (⟨rfl, rfl, rfl⟩)
  · refine lv_tableIn (tgt := 77) hx hb dX7_many_1 (by decide) (by decide) rfl (by decide) ?_
    refine lv_aload_n hx hb dX7_many_77 rfl (hL.at 0 rfl) ?_
    refine k_get (ci := 9) (C := RX7) (T := TX7) (N := 15) hx hb hts w_RX7 hown hK hW (by first | assumption | exact up_s | (rw [up_n (by omega)]; first | assumption | exact up_s | (rw [up_n (by omega)]; first | assumption | exact up_s | (rw [up_n (by omega)]; first | assumption | exact up_s | (rw [up_n (by omega)]; first | assumption | exact up_s | (rw [up_n (by omega)]; first | assumption | exact up_s | (rw [up_n (by omega)]; first | assumption | exact up_s | (rw [up_n (by omega)]; first | assumption | exact up_s | (rw [up_n (by omega)]; first | assumption | exact up_s | (rw [up_n (by omega)]; first | assumption | exact up_s | (rw [up_n (by omega)]; first | assumption | exact up_s | (rw [up_n (by omega)]; first | assumption | exact up_s)))))))))))) rfl 7 (by decide) (hq _ q156 rfl) (fun _ h9 => h9) (by rfl) dX7_many_78 ?_
    rw [hQ]
    exact k_iret hx hb hr hlocks hW hS (by omega) (by omega) dX7_many_81 (⟨rfl, rfl, rfl⟩)
  · refine lv_tableIn (tgt := 82) hx hb dX7_many_1 (by decide) (by decide) rfl (by decide) ?_
    refine lv_aload_n hx hb dX7_many_82 rfl (hL.at 0 rfl) ?_
    refine k_get (ci := 9) (C := RX7) (T := TX7) (N := 15) hx hb hts w_RX7 hown hK hW (by first | assumption | exact up_s | (rw [up_n (by omega)]; first | assumption | exact up_s | (rw [up_n (by omega)]; first | assumption | exact up_s | (rw [up_n (by omega)]; first | assumption | exact up_s | (rw [up_n (by omega)]; first | assumption | exact up_s | (rw [up_n (by omega)]; first | assumption | exact up_s | (rw [up_n (by omega)]; first | assumption | exact up_s | (rw [up_n (by omega)]; first | assumption | exact up_s | (rw [up_n (by omega)]; first | assumption | exact up_s | (rw [up_n (by omega)]; first | assumption | exact up_s | (rw [up_n (by omega)]; first | assumption | exact up_s | (rw [up_n (by omega)]; first | assumption | exact up_s)))))))))))) rfl 8 (by decide) (hq _ q157 rfl) (fun _ h9 => h9) (by rfl) dX7_many_83 ?_
    rw [hQ]
    exact k_iret hx hb hr hlocks hW hS (by omega) (by omega) dX7_many_86 (⟨rfl, rfl, rfl⟩)
  · refine lv_tableIn (tgt := 87) hx hb dX7_many_1 (by decide) (by decide) rfl (by decide) ?_
    refine lv_aload_n hx hb dX7_many_87 rfl (hL.at 0 rfl) ?_
    refine k_get (ci := 9) (C := RX7) (T := TX7) (N := 15) hx hb hts w_RX7 hown hK hW (by first | assumption | exact up_s | (rw [up_n (by omega)]; first | assumption | exact up_s | (rw [up_n (by omega)]; first | assumption | exact up_s | (rw [up_n (by omega)]; first | assumption | exact up_s | (rw [up_n (by omega)]; first | assumption | exact up_s | (rw [up_n (by omega)]; first | assumption | exact up_s | (rw [up_n (by omega)]; first | assumption | exact up_s | (rw [up_n (by omega)]; first | assumption | exact up_s | (rw [up_n (by omega)]; first | assumption | exact up_s | (rw [up_n (by omega)]; first | assumption | exact up_s | (rw [up_n (by omega)]; first | assumption | exact up_s | (rw [up_n (by omega)]; first | assumption | exact up_s)))))))))))) rfl 9 (by decide) (hq _ q158 rfl) (fun _ h9 => h9) (by rfl) dX7_many_88 ?_
    rw [hQ]
    exact k_iret hx hb hr hlocks hW hS (by omega) (by omega) dX7_many_91 (⟨rfl, rfl, rfl⟩)
  · refine lv_tableIn (tgt := 92) hx hb dX7_many_1 (by decide) (by decide) rfl (by decide) ?_
    refine lv_aload_n hx hb dX7_many_92 rfl (hL.at 0 rfl) ?_
    refine k_get (ci := 9) (C := RX7) (T := TX7) (N := 15) hx hb hts w_RX7 hown hK hW (by first | assumption | exact up_s | (rw [up_n (by omega)]; first | assumption | exact up_s | (rw [up_n (by omega)]; first | assumption | exact up_s | (rw [up_n (by omega)]; first | assumption | exact up_s | (rw [up_n (by omega)]; first | assumption | exact up_s | (rw [up_n (by omega)]; first | assumption | exact up_s | (rw [up_n (by omega)]; first | assumption | exact up_s | (rw [up_n (by omega)]; first | assumption | exact up_s | (rw [up_n (by omega)]; first | assumption | exact up_s | (rw [up_n (by omega)]; first | assumption | exact up_s | (rw [up_n (by omega)]; first | assumption | exact up_s | (rw [up_n (by omega)]; first | assumption | exact up_s)))))))))))) rfl 10 (by decide) (hq _ q159 rfl) (fun _ h9 => h9) (by rfl) dX7_many_93 ?_
    rw [hQ]
    exact k_iret hx hb hr hlocks hW hS (by omega) (by omega) dX7_many_96 (⟨rfl, rfl, rfl⟩)
  · refine lv_tableIn (tgt := 97) hx hb dX7_many_1 (by decide) (by decide) rfl (by decide) ?_
    refine lv_aload_n hx hb dX7_many_97 rfl (hL.at 0 rfl) ?_
    refine lv_iload_n hx hb dX7_many_98 rfl (hL.at 1 rfl) ?_
    refine lv_iconst (v := 5) hx hb dX7_many_99 (by decide) ?_
    refine lv_isub hx hb dX7_many_100 ?_
    refine lv_topi (fun y hy => ?_)
    obtain ⟨st, hst, hy2, hw2⟩ : ∃ st : Nat, st < 6 ∧ y = nI st ∧ w0 = st + 5 := by first | exact ⟨0, by decide, hy, by omega⟩ | exact ⟨1, by decide, hy, by omega⟩ | exact ⟨2, by decide, hy, by omega⟩ | exact ⟨3, by decide, hy, by omega⟩ | exact ⟨4, by decide, hy, by omega⟩ | exact ⟨5, by decide, hy, by omega⟩
    subst hy2
    refine k_callV (q := (RX7, TX7, 15)) hx hb hml hown hts hK hI hS hW hL.1 (by first | assumption | exact up_s | (rw [up_n (by omega)]; first | assumption | exact up_s | (rw [up_n (by omega)]; first | assumption | exact up_s | (rw [up_n (by omega)]; first | assumption | exact up_s | (rw [up_n (by omega)]; first | assumption | exact up_s | (rw [up_n (by omega)]; first | assumption | exact up_s | (rw [up_n (by omega)]; first | assumption | exact up_s | (rw [up_n (by omega)]; first | assumption | exact up_s | (rw [up_n (by omega)]; first | assumption | exact up_s | (rw [up_n (by omega)]; first | assumption | exact up_s | (rw [up_n (by omega)]; first | assumption | exact up_s | (rw [up_n (by omega)]; first | assumption | exact up_s)))))))))))) rfl (c_countIn G hm ho st hst) (m5 (gT_in q216 rfl) (gT_in q218 rfl) (gT_in q0 rfl) (gT_in q55 rfl) (gT_in q219 rfl)) rfl (show kpar yX7_countInState 1 from ⟨by decide, by decide, by decide +kernel⟩) ⟨by decide, by decide⟩ (by show _ ≤ (0 : Nat); omega) (by show _ ≤ (0 : Nat); omega) rfl (by decide) dX7_many_101 (fun v ad101 ct101 H locs hp hW hS => ?_)
    obtain ⟨rfl, h1, h2⟩ := hp
    rw [h1, h2] at hW
    rw [hQ]
    exact k_iret hx hb hr hlocks hW hS (by omega) (by omega) dX7_many_104 (⟨by rw [← fMany_st hst]; exact congrArg (fun z => some (Value.int (fMany M z))) (by omega), rfl, rfl⟩)
  · refine lv_tableIn (tgt := 97) hx hb dX7_many_1 (by decide) (by decide) rfl (by decide) ?_
    refine lv_aload_n hx hb dX7_many_97 rfl (hL.at 0 rfl) ?_
    refine lv_iload_n hx hb dX7_many_98 rfl (hL.at 1 rfl) ?_
    refine lv_iconst (v := 5) hx hb dX7_many_99 (by decide) ?_
    refine lv_isub hx hb dX7_many_100 ?_
    refine lv_topi (fun y hy => ?_)
    obtain ⟨st, hst, hy2, hw2⟩ : ∃ st : Nat, st < 6 ∧ y = nI st ∧ w0 = st + 5 := by first | exact ⟨0, by decide, hy, by omega⟩ | exact ⟨1, by decide, hy, by omega⟩ | exact ⟨2, by decide, hy, by omega⟩ | exact ⟨3, by decide, hy, by omega⟩ | exact ⟨4, by decide, hy, by omega⟩ | exact ⟨5, by decide, hy, by omega⟩
    subst hy2
    refine k_callV (q := (RX7, TX7, 15)) hx hb hml hown hts hK hI hS hW hL.1 (by first | assumption | exact up_s | (rw [up_n (by omega)]; first | assumption | exact up_s | (rw [up_n (by omega)]; first | assumption | exact up_s | (rw [up_n (by omega)]; first | assumption | exact up_s | (rw [up_n (by omega)]; first | assumption | exact up_s | (rw [up_n (by omega)]; first | assumption | exact up_s | (rw [up_n (by omega)]; first | assumption | exact up_s | (rw [up_n (by omega)]; first | assumption | exact up_s | (rw [up_n (by omega)]; first | assumption | exact up_s | (rw [up_n (by omega)]; first | assumption | exact up_s | (rw [up_n (by omega)]; first | assumption | exact up_s | (rw [up_n (by omega)]; first | assumption | exact up_s)))))))))))) rfl (c_countIn G hm ho st hst) (m5 (gT_in q216 rfl) (gT_in q218 rfl) (gT_in q0 rfl) (gT_in q55 rfl) (gT_in q219 rfl)) rfl (show kpar yX7_countInState 1 from ⟨by decide, by decide, by decide +kernel⟩) ⟨by decide, by decide⟩ (by show _ ≤ (0 : Nat); omega) (by show _ ≤ (0 : Nat); omega) rfl (by decide) dX7_many_101 (fun v ad101 ct101 H locs hp hW hS => ?_)
    obtain ⟨rfl, h1, h2⟩ := hp
    rw [h1, h2] at hW
    rw [hQ]
    exact k_iret hx hb hr hlocks hW hS (by omega) (by omega) dX7_many_104 (⟨by rw [← fMany_st hst]; exact congrArg (fun z => some (Value.int (fMany M z))) (by omega), rfl, rfl⟩)
  · refine lv_tableIn (tgt := 97) hx hb dX7_many_1 (by decide) (by decide) rfl (by decide) ?_
    refine lv_aload_n hx hb dX7_many_97 rfl (hL.at 0 rfl) ?_
    refine lv_iload_n hx hb dX7_many_98 rfl (hL.at 1 rfl) ?_
    refine lv_iconst (v := 5) hx hb dX7_many_99 (by decide) ?_
    refine lv_isub hx hb dX7_many_100 ?_
    refine lv_topi (fun y hy => ?_)
    obtain ⟨st, hst, hy2, hw2⟩ : ∃ st : Nat, st < 6 ∧ y = nI st ∧ w0 = st + 5 := by first | exact ⟨0, by decide, hy, by omega⟩ | exact ⟨1, by decide, hy, by omega⟩ | exact ⟨2, by decide, hy, by omega⟩ | exact ⟨3, by decide, hy, by omega⟩ | exact ⟨4, by decide, hy, by omega⟩ | exact ⟨5, by decide, hy, by omega⟩
    subst hy2
    refine k_callV (q := (RX7, TX7, 15)) hx hb hml hown hts hK hI hS hW hL.1 (by first | assumption | exact up_s | (rw [up_n (by omega)]; first | assumption | exact up_s | (rw [up_n (by omega)]; first | assumption | exact up_s | (rw [up_n (by omega)]; first | assumption | exact up_s | (rw [up_n (by omega)]; first | assumption | exact up_s | (rw [up_n (by omega)]; first | assumption | exact up_s | (rw [up_n (by omega)]; first | assumption | exact up_s | (rw [up_n (by omega)]; first | assumption | exact up_s | (rw [up_n (by omega)]; first | assumption | exact up_s | (rw [up_n (by omega)]; first | assumption | exact up_s | (rw [up_n (by omega)]; first | assumption | exact up_s | (rw [up_n (by omega)]; first | assumption | exact up_s)))))))))))) rfl (c_countIn G hm ho st hst) (m5 (gT_in q216 rfl) (gT_in q218 rfl) (gT_in q0 rfl) (gT_in q55 rfl) (gT_in q219 rfl)) rfl (show kpar yX7_countInState 1 from ⟨by decide, by decide, by decide +kernel⟩) ⟨by decide, by decide⟩ (by show _ ≤ (0 : Nat); omega) (by show _ ≤ (0 : Nat); omega) rfl (by decide) dX7_many_101 (fun v ad101 ct101 H locs hp hW hS => ?_)
    obtain ⟨rfl, h1, h2⟩ := hp
    rw [h1, h2] at hW
    rw [hQ]
    exact k_iret hx hb hr hlocks hW hS (by omega) (by omega) dX7_many_104 (⟨by rw [← fMany_st hst]; exact congrArg (fun z => some (Value.int (fMany M z))) (by omega), rfl, rfl⟩)
  · refine lv_tableIn (tgt := 97) hx hb dX7_many_1 (by decide) (by decide) rfl (by decide) ?_
    refine lv_aload_n hx hb dX7_many_97 rfl (hL.at 0 rfl) ?_
    refine lv_iload_n hx hb dX7_many_98 rfl (hL.at 1 rfl) ?_
    refine lv_iconst (v := 5) hx hb dX7_many_99 (by decide) ?_
    refine lv_isub hx hb dX7_many_100 ?_
    refine lv_topi (fun y hy => ?_)
    obtain ⟨st, hst, hy2, hw2⟩ : ∃ st : Nat, st < 6 ∧ y = nI st ∧ w0 = st + 5 := by first | exact ⟨0, by decide, hy, by omega⟩ | exact ⟨1, by decide, hy, by omega⟩ | exact ⟨2, by decide, hy, by omega⟩ | exact ⟨3, by decide, hy, by omega⟩ | exact ⟨4, by decide, hy, by omega⟩ | exact ⟨5, by decide, hy, by omega⟩
    subst hy2
    refine k_callV (q := (RX7, TX7, 15)) hx hb hml hown hts hK hI hS hW hL.1 (by first | assumption | exact up_s | (rw [up_n (by omega)]; first | assumption | exact up_s | (rw [up_n (by omega)]; first | assumption | exact up_s | (rw [up_n (by omega)]; first | assumption | exact up_s | (rw [up_n (by omega)]; first | assumption | exact up_s | (rw [up_n (by omega)]; first | assumption | exact up_s | (rw [up_n (by omega)]; first | assumption | exact up_s | (rw [up_n (by omega)]; first | assumption | exact up_s | (rw [up_n (by omega)]; first | assumption | exact up_s | (rw [up_n (by omega)]; first | assumption | exact up_s | (rw [up_n (by omega)]; first | assumption | exact up_s | (rw [up_n (by omega)]; first | assumption | exact up_s)))))))))))) rfl (c_countIn G hm ho st hst) (m5 (gT_in q216 rfl) (gT_in q218 rfl) (gT_in q0 rfl) (gT_in q55 rfl) (gT_in q219 rfl)) rfl (show kpar yX7_countInState 1 from ⟨by decide, by decide, by decide +kernel⟩) ⟨by decide, by decide⟩ (by show _ ≤ (0 : Nat); omega) (by show _ ≤ (0 : Nat); omega) rfl (by decide) dX7_many_101 (fun v ad101 ct101 H locs hp hW hS => ?_)
    obtain ⟨rfl, h1, h2⟩ := hp
    rw [h1, h2] at hW
    rw [hQ]
    exact k_iret hx hb hr hlocks hW hS (by omega) (by omega) dX7_many_104 (⟨by rw [← fMany_st hst]; exact congrArg (fun z => some (Value.int (fMany M z))) (by omega), rfl, rfl⟩)
  · refine lv_tableIn (tgt := 97) hx hb dX7_many_1 (by decide) (by decide) rfl (by decide) ?_
    refine lv_aload_n hx hb dX7_many_97 rfl (hL.at 0 rfl) ?_
    refine lv_iload_n hx hb dX7_many_98 rfl (hL.at 1 rfl) ?_
    refine lv_iconst (v := 5) hx hb dX7_many_99 (by decide) ?_
    refine lv_isub hx hb dX7_many_100 ?_
    refine lv_topi (fun y hy => ?_)
    obtain ⟨st, hst, hy2, hw2⟩ : ∃ st : Nat, st < 6 ∧ y = nI st ∧ w0 = st + 5 := by first | exact ⟨0, by decide, hy, by omega⟩ | exact ⟨1, by decide, hy, by omega⟩ | exact ⟨2, by decide, hy, by omega⟩ | exact ⟨3, by decide, hy, by omega⟩ | exact ⟨4, by decide, hy, by omega⟩ | exact ⟨5, by decide, hy, by omega⟩
    subst hy2
    refine k_callV (q := (RX7, TX7, 15)) hx hb hml hown hts hK hI hS hW hL.1 (by first | assumption | exact up_s | (rw [up_n (by omega)]; first | assumption | exact up_s | (rw [up_n (by omega)]; first | assumption | exact up_s | (rw [up_n (by omega)]; first | assumption | exact up_s | (rw [up_n (by omega)]; first | assumption | exact up_s | (rw [up_n (by omega)]; first | assumption | exact up_s | (rw [up_n (by omega)]; first | assumption | exact up_s | (rw [up_n (by omega)]; first | assumption | exact up_s | (rw [up_n (by omega)]; first | assumption | exact up_s | (rw [up_n (by omega)]; first | assumption | exact up_s | (rw [up_n (by omega)]; first | assumption | exact up_s | (rw [up_n (by omega)]; first | assumption | exact up_s)))))))))))) rfl (c_countIn G hm ho st hst) (m5 (gT_in q216 rfl) (gT_in q218 rfl) (gT_in q0 rfl) (gT_in q55 rfl) (gT_in q219 rfl)) rfl (show kpar yX7_countInState 1 from ⟨by decide, by decide, by decide +kernel⟩) ⟨by decide, by decide⟩ (by show _ ≤ (0 : Nat); omega) (by show _ ≤ (0 : Nat); omega) rfl (by decide) dX7_many_101 (fun v ad101 ct101 H locs hp hW hS => ?_)
    obtain ⟨rfl, h1, h2⟩ := hp
    rw [h1, h2] at hW
    rw [hQ]
    exact k_iret hx hb hr hlocks hW hS (by omega) (by omega) dX7_many_104 (⟨by rw [← fMany_st hst]; exact congrArg (fun z => some (Value.int (fMany M z))) (by omega), rfl, rfl⟩)
  · refine lv_tableIn (tgt := 97) hx hb dX7_many_1 (by decide) (by decide) rfl (by decide) ?_
    refine lv_aload_n hx hb dX7_many_97 rfl (hL.at 0 rfl) ?_
    refine lv_iload_n hx hb dX7_many_98 rfl (hL.at 1 rfl) ?_
    refine lv_iconst (v := 5) hx hb dX7_many_99 (by decide) ?_
    refine lv_isub hx hb dX7_many_100 ?_
    refine lv_topi (fun y hy => ?_)
    obtain ⟨st, hst, hy2, hw2⟩ : ∃ st : Nat, st < 6 ∧ y = nI st ∧ w0 = st + 5 := by first | exact ⟨0, by decide, hy, by omega⟩ | exact ⟨1, by decide, hy, by omega⟩ | exact ⟨2, by decide, hy, by omega⟩ | exact ⟨3, by decide, hy, by omega⟩ | exact ⟨4, by decide, hy, by omega⟩ | exact ⟨5, by decide, hy, by omega⟩
    subst hy2
    refine k_callV (q := (RX7, TX7, 15)) hx hb hml hown hts hK hI hS hW hL.1 (by first | assumption | exact up_s | (rw [up_n (by omega)]; first | assumption | exact up_s | (rw [up_n (by omega)]; first | assumption | exact up_s | (rw [up_n (by omega)]; first | assumption | exact up_s | (rw [up_n (by omega)]; first | assumption | exact up_s | (rw [up_n (by omega)]; first | assumption | exact up_s | (rw [up_n (by omega)]; first | assumption | exact up_s | (rw [up_n (by omega)]; first | assumption | exact up_s | (rw [up_n (by omega)]; first | assumption | exact up_s | (rw [up_n (by omega)]; first | assumption | exact up_s | (rw [up_n (by omega)]; first | assumption | exact up_s | (rw [up_n (by omega)]; first | assumption | exact up_s)))))))))))) rfl (c_countIn G hm ho st hst) (m5 (gT_in q216 rfl) (gT_in q218 rfl) (gT_in q0 rfl) (gT_in q55 rfl) (gT_in q219 rfl)) rfl (show kpar yX7_countInState 1 from ⟨by decide, by decide, by decide +kernel⟩) ⟨by decide, by decide⟩ (by show _ ≤ (0 : Nat); omega) (by show _ ≤ (0 : Nat); omega) rfl (by decide) dX7_many_101 (fun v ad101 ct101 H locs hp hW hS => ?_)
    obtain ⟨rfl, h1, h2⟩ := hp
    rw [h1, h2] at hW
    rw [hQ]
    exact k_iret hx hb hr hlocks hW hS (by omega) (by omega) dX7_many_104 (⟨by rw [← fMany_st hst]; exact congrArg (fun z => some (Value.int (fMany M z))) (by omega), rfl, rfl⟩)
  · refine lv_tableIn (tgt := 105) hx hb dX7_many_1 (by decide) (by decide) rfl (by decide) ?_
    refine lv_aload_n hx hb dX7_many_105 rfl (hL.at 0 rfl) ?_
    refine k_get (ci := 9) (C := RX7) (T := TX7) (N := 15) hx hb hts w_RX7 hown hK hW (by first | assumption | exact up_s | (rw [up_n (by omega)]; first | assumption | exact up_s | (rw [up_n (by omega)]; first | assumption | exact up_s | (rw [up_n (by omega)]; first | assumption | exact up_s | (rw [up_n (by omega)]; first | assumption | exact up_s | (rw [up_n (by omega)]; first | assumption | exact up_s | (rw [up_n (by omega)]; first | assumption | exact up_s | (rw [up_n (by omega)]; first | assumption | exact up_s | (rw [up_n (by omega)]; first | assumption | exact up_s | (rw [up_n (by omega)]; first | assumption | exact up_s | (rw [up_n (by omega)]; first | assumption | exact up_s | (rw [up_n (by omega)]; first | assumption | exact up_s)))))))))))) rfl 12 (by decide) (hq _ q161 rfl) (fun _ h9 => h9) (by rfl) dX7_many_106 ?_
    rw [hQ]
    exact k_iret hx hb hr hlocks hW hS (by omega) (by omega) dX7_many_109 (⟨rfl, rfl, rfl⟩)
  · refine lv_tableIn (tgt := 110) hx hb dX7_many_1 (by decide) (by decide) rfl (by decide) ?_
    refine lv_aload_n hx hb dX7_many_110 rfl (hL.at 0 rfl) ?_
    refine k_get (ci := 9) (C := RX7) (T := TX7) (N := 15) hx hb hts w_RX7 hown hK hW (by first | assumption | exact up_s | (rw [up_n (by omega)]; first | assumption | exact up_s | (rw [up_n (by omega)]; first | assumption | exact up_s | (rw [up_n (by omega)]; first | assumption | exact up_s | (rw [up_n (by omega)]; first | assumption | exact up_s | (rw [up_n (by omega)]; first | assumption | exact up_s | (rw [up_n (by omega)]; first | assumption | exact up_s | (rw [up_n (by omega)]; first | assumption | exact up_s | (rw [up_n (by omega)]; first | assumption | exact up_s | (rw [up_n (by omega)]; first | assumption | exact up_s | (rw [up_n (by omega)]; first | assumption | exact up_s | (rw [up_n (by omega)]; first | assumption | exact up_s)))))))))))) rfl 14 (by decide) (hq _ q163 rfl) (fun _ h9 => h9) (by rfl) dX7_many_111 ?_
    refine lv_if_eq (tgt := 121) hx hb dX7_many_114 (by decide) (fun c114 => ?_) (fun c114 => ?_)
    · try dsimp only at c114
      refine lv_iconst (v := 0) hx hb dX7_many_121 (by decide) ?_
      rw [hQ]
      exact k_iret hx hb hr hlocks hW hS (by omega) (by omega) dX7_many_122 (⟨by show _ = some (Value.int (if mShut M = 0 then 0 else 1)); first | exact (congrArg (fun z => some (Value.int z)) (if_pos c114)).symm | exact (congrArg (fun z => some (Value.int z)) (if_neg c114)).symm, rfl, rfl⟩)
    · try dsimp only at c114
      refine lv_iconst (v := 1) hx hb dX7_many_117 (by decide) ?_
      refine lv_goto (tgt := 122) hx hb dX7_many_118 (by decide) ?_
      rw [hQ]
      exact k_iret hx hb hr hlocks hW hS (by omega) (by omega) dX7_many_122 (⟨by show _ = some (Value.int (if mShut M = 0 then 0 else 1)); first | exact (congrArg (fun z => some (Value.int z)) (if_pos c114)).symm | exact (congrArg (fun z => some (Value.int z)) (if_neg c114)).symm, rfl, rfl⟩)
  · refine lv_tableIn (tgt := 123) hx hb dX7_many_1 (by decide) (by decide) rfl (by decide) ?_
    refine lv_aload_n hx hb dX7_many_123 rfl (hL.at 0 rfl) ?_
    refine k_get (ci := 9) (C := RX7) (T := TX7) (N := 15) hx hb hts w_RX7 hown hK hW (by first | assumption | exact up_s | (rw [up_n (by omega)]; first | assumption | exact up_s | (rw [up_n (by omega)]; first | assumption | exact up_s | (rw [up_n (by omega)]; first | assumption | exact up_s | (rw [up_n (by omega)]; first | assumption | exact up_s | (rw [up_n (by omega)]; first | assumption | exact up_s | (rw [up_n (by omega)]; first | assumption | exact up_s | (rw [up_n (by omega)]; first | assumption | exact up_s | (rw [up_n (by omega)]; first | assumption | exact up_s | (rw [up_n (by omega)]; first | assumption | exact up_s | (rw [up_n (by omega)]; first | assumption | exact up_s | (rw [up_n (by omega)]; first | assumption | exact up_s)))))))))))) rfl 13 (by decide) (hq _ q162 rfl) (fun _ h9 => h9) (by rfl) dX7_many_124 ?_
    rw [hQ]
    exact k_iret hx hb hr hlocks hW hS (by omega) (by omega) dX7_many_127 (⟨rfl, rfl, rfl⟩)
