/-! leaves of the class -/
set_option maxHeartbeats 4000000 in
set_option maxRecDepth 100000 in
/-- TailorBench$Person.read  -/
theorem c_read {l : Launch} {D : va_G} {cy : Nat → ClassId} {sad : Nat → Nat} {em : Nat} {s0 : State} {a0 : Array Value} (G : kG kSTR l D cy sad em s0 a0) {ad : Nat → Nat} {ct : Nat → Option va_E} {kp : Nat} {num : Int32} {ms : Nat → Nat} (hp : ct kp = some (oPer num ms)) {j : Nat} (hj : j < 4) :
    KM l yX3_read [.code yX3_read prog_5_method_2_code 2 (some .int)] 0 0 0 0 [.ref (ad kp), .int (nI j)] D s0 ad ct (fun v ad' ct' => v = some (.int (nI (ms j))) ∧ ad' = ad ∧ ct' = ct) := by
  refine KM.of G (by decide) (Nat.le_of_ble_eq_true rfl) (Nat.le_of_ble_eq_true rfl) ?_
  intro p e s m args below meth c ls Q hQ X hin hL hW hS
  obtain ⟨hx, hb, hr, hml, hown, hlocks, hts, hq, hK, hI⟩ := X
  refine lv_iload_n hx hb dX3_read_0 rfl (hL.at 1 rfl) ?_
  rcases (show j = 0 ∨ j = 1 ∨ j = 2 ∨ j = 3 by omega) with rfl | rfl | rfl | rfl
  · refine lv_tableIn (tgt := 28) hx hb dX3_read_1 (by decide) (by decide) rfl (by decide) ?_
    refine lv_aload_n hx hb dX3_read_28 rfl (hL.at 0 rfl) ?_
    refine k_get (ci := 5) (C := RX3) (T := TX3) (N := 5) hx hb hts w_RX3 hown hK hW (by first | assumption | exact up_s | (rw [up_n (by omega)]; first | assumption | exact up_s | (rw [up_n (by omega)]; first | assumption | exact up_s | (rw [up_n (by omega)]; first | assumption | exact up_s | (rw [up_n (by omega)]; first | assumption | exact up_s | (rw [up_n (by omega)]; first | assumption | exact up_s)))))) rfl 1 (by decide) (hq _ q525 rfl) (fun _ h9 => h9) (by rfl) dX3_read_29 ?_
    rw [hQ]
    exact k_iret hx hb hr hlocks hW hS (by omega) (by omega) dX3_read_32 (⟨rfl, rfl, rfl⟩)
  · refine lv_tableIn (tgt := 33) hx hb dX3_read_1 (by decide) (by decide) rfl (by decide) ?_
    refine lv_aload_n hx hb dX3_read_33 rfl (hL.at 0 rfl) ?_
    refine k_get (ci := 5) (C := RX3) (T := TX3) (N := 5) hx hb hts w_RX3 hown hK hW (by first | assumption | exact up_s | (rw [up_n (by omega)]; first | assumption | exact up_s | (rw [up_n (by omega)]; first | assumption | exact up_s | (rw [up_n (by omega)]; first | assumption | exact up_s | (rw [up_n (by omega)]; first | assumption | exact up_s | (rw [up_n (by omega)]; first | assumption | exact up_s)))))) rfl 2 (by decide) (hq _ q526 rfl) (fun _ h9 => h9) (by rfl) dX3_read_34 ?_
    rw [hQ]
    exact k_iret hx hb hr hlocks hW hS (by omega) (by omega) dX3_read_37 (⟨rfl, rfl, rfl⟩)
  · refine lv_tableIn (tgt := 38) hx hb dX3_read_1 (by decide) (by decide) rfl (by decide) ?_
    refine lv_aload_n hx hb dX3_read_38 rfl (hL.at 0 rfl) ?_
    refine k_get (ci := 5) (C := RX3) (T := TX3) (N := 5) hx hb hts w_RX3 hown hK hW (by first | assumption | exact up_s | (rw [up_n (by omega)]; first | assumption | exact up_s | (rw [up_n (by omega)]; first | assumption | exact up_s | (rw [up_n (by omega)]; first | assumption | exact up_s | (rw [up_n (by omega)]; first | assumption | exact up_s | (rw [up_n (by omega)]; first | assumption | exact up_s)))))) rfl 3 (by decide) (hq _ q527 rfl) (fun _ h9 => h9) (by rfl) dX3_read_39 ?_
    rw [hQ]
    exact k_iret hx hb hr hlocks hW hS (by omega) (by omega) dX3_read_42 (⟨rfl, rfl, rfl⟩)
  · refine lv_tableOut (tgt := 43) hx hb dX3_read_1 (by decide) (by decide) ?_
    refine lv_aload_n hx hb dX3_read_43 rfl (hL.at 0 rfl) ?_
    refine k_get (ci := 5) (C := RX3) (T := TX3) (N := 5) hx hb hts w_RX3 hown hK hW (by first | assumption | exact up_s | (rw [up_n (by omega)]; first | assumption | exact up_s | (rw [up_n (by omega)]; first | assumption | exact up_s | (rw [up_n (by omega)]; first | assumption | exact up_s | (rw [up_n (by omega)]; first | assumption | exact up_s | (rw [up_n (by omega)]; first | assumption | exact up_s)))))) rfl 4 (by decide) (hq _ q528 rfl) (fun _ h9 => h9) (by rfl) dX3_read_44 ?_
    rw [hQ]
    exact k_iret hx hb hr hlocks hW hS (by omega) (by omega) dX3_read_47 (⟨rfl, rfl, rfl⟩)

set_option maxHeartbeats 4000000 in
set_option maxRecDepth 100000 in
/-- TailorBench$Piece.partOf  -/
theorem c_partOf {l : Launch} {D : va_G} {cy : Nat → ClassId} {sad : Nat → Nat} {em : Nat} {s0 : State} {a0 : Array Value} (G : kG kSTR l D cy sad em s0 a0) {ad : Nat → Nat} {ct : Nat → Option va_E} {kp : Nat} {num : Int32} {ms : Nat → Nat} (hp : ct kp = some (oPer num ms)) (hms : okMs ms) {part : Nat} (hpt : okPart part) :
    KM l yX4_partOf [.code yX4_partOf prog_6_method_4_code 2 (some .double)] 1 21 0 0 [.ref (ad kp), .int (nI part)] D s0 ad ct (fun v ad' ct' => v = some (.double (fPart ms part)) ∧ ad' = ad ∧ ct' = ct) := by
  refine KM.of G (by decide) (Nat.le_of_ble_eq_true rfl) (Nat.le_of_ble_eq_true rfl) ?_
  intro p e s m args below meth c ls Q hQ X hin hL hW hS
  obtain ⟨hx, hb, hr, hml, hown, hlocks, hts, hq, hK, hI⟩ := X
  have hpt1 := hpt.1
  refine lv_aload_n hx hb dX4_partOf_0 rfl (hL.at 0 rfl) ?_
  refine lv_iload_n hx hb dX4_partOf_1 rfl (hL.at 1 rfl) ?_
  refine lv_bipush (v := 10) hx hb dX4_partOf_2 (by decide) ?_
  refine lv_idiv hx hb dX4_partOf_4 (by decide) ?_
  rw [fI_div10 (by omega)]
  refine k_callVN (q := (RX3, TX3, 5)) (host := "TailorBench") hx hb hml hown hts hK hI hS hW hL.1 (by first | assumption | exact up_s | (rw [up_n (by omega)]; first | assumption | exact up_s | (rw [up_n (by omega)]; first | assumption | exact up_s | (rw [up_n (by omega)]; first | assumption | exact up_s | (rw [up_n (by omega)]; first | assumption | exact up_s | (rw [up_n (by omega)]; first | assumption | exact up_s)))))) rfl (c_read G hp (j := part / 10) (by omega)) (gT_in q352 rfl) (hq _ q348 rfl) (hq _ q75 rfl) (hq _ q350 rfl) (hq _ q6 rfl) (show kpar yX3_read 1 from ⟨by decide, by decide, by decide +kernel⟩) ⟨by decide, by decide⟩ (by show _ ≤ (0 : Nat); omega) (by show _ ≤ (0 : Nat); omega) rfl (by decide) dX4_partOf_5 (fun v ad5 ct5 H locs hp hW hS => ?_)
  obtain ⟨rfl, h1, h2⟩ := hp
  rw [h1, h2] at hW
  refine lv_iload_n hx hb dX4_partOf_8 rfl (hL.at 1 rfl) ?_
  refine lv_bipush (v := 10) hx hb dX4_partOf_9 (by decide) ?_
  refine lv_irem hx hb dX4_partOf_11 (by decide) ?_
  rw [fI_rem10 (by omega)]
  refine lv_imul hx hb dX4_partOf_12 ?_
  rw [pk_mul]
  refine lv_i2d hx hb dX4_partOf_13 ?_
  refine lv_ldc2d hx hb hown (hq _ q353 rfl) dX4_partOf_14 ?_
  refine lv_ddiv hx hb dX4_partOf_17 (fPart_no hms hpt) ?_
  rw [hQ]
  exact k_dret hx hb hr hlocks hW hS (by omega) (by omega) dX4_partOf_18 (⟨rfl, rfl, rfl⟩)

set_option maxHeartbeats 4000000 in
set_option maxRecDepth 100000 in
/-- TailorBench$Piece.bodyFor  -/
theorem c_bodyFor {l : Launch} {D : va_G} {cy : Nat → ClassId} {sad : Nat → Nat} {em : Nat} {s0 : State} {a0 : Array Value} (G : kG kSTR l D cy sad em s0 a0) {ad : Nat → Nat} {ct : Nat → Option va_E} {kc : Nat} {pc : tPc} (hpc : ct kc = some (oPc pc)) {kp : Nat} {num : Int32} {ms : Nat → Nat} (hp : ct kp = some (oPer num ms)) (hms : okMs ms) (hk : okPc pc) :
    KM l yX4_bodyFor [.code yX4_bodyFor prog_6_method_2_code 2 (some .double)] 2 42 0 0 [.ref (ad kc), .ref (ad kp)] D s0 ad ct (fun v ad' ct' => v = some (.double (fBody ms pc)) ∧ ad' = ad ∧ ct' = ct) := by
  refine KM.of G (by decide) (Nat.le_of_ble_eq_true rfl) (Nat.le_of_ble_eq_true rfl) ?_
  intro p e s m args below meth c ls Q hQ X hin hL hW hS
  obtain ⟨hx, hb, hr, hml, hown, hlocks, hts, hq, hK, hI⟩ := X
  refine lv_aload_n hx hb dX4_bodyFor_0 rfl (hL.at 1 rfl) ?_
  refine lv_aload_n hx hb dX4_bodyFor_1 rfl (hL.at 0 rfl) ?_
  refine k_get (ci := 6) (C := RX4) (T := TX4) (N := 4) hx hb hts w_RX4 hown hK hW (by first | assumption | exact up_s | (rw [up_n (by omega)]; first | assumption | exact up_s | (rw [up_n (by omega)]; first | assumption | exact up_s | (rw [up_n (by omega)]; first | assumption | exact up_s | (rw [up_n (by omega)]; first | assumption | exact up_s | (rw [up_n (by omega)]; first | assumption | exact up_s)))))) rfl 0 (by decide) (hq _ q618 rfl) (fun _ h9 => h9) (by rfl) dX4_bodyFor_2 ?_
  refine k_callS hx hb hml hown hts hI hS hW hL.1 (c_partOf G hp hms hk.1) (m4 (gT_in q345 rfl) (gT_in q346 rfl) (gT_in q77 rfl) (gT_in q347 rfl)) (show kpar yX4_partOf 2 from ⟨by decide, by decide, by decide +kernel⟩) ⟨by decide, by decide⟩ (by show _ ≤ (0 : Nat); omega) (by show _ ≤ (0 : Nat); omega) rfl (by decide) dX4_bodyFor_5 (fun v ad5 ct5 H locs hp hW hS => ?_)
  obtain ⟨rfl, h1, h2⟩ := hp
  rw [h1, h2] at hW
  refine lv_aload_n hx hb dX4_bodyFor_8 rfl (hL.at 0 rfl) ?_
  refine k_get (ci := 6) (C := RX4) (T := TX4) (N := 4) hx hb hts w_RX4 hown hK hW (by first | assumption | exact up_s | (rw [up_n (by omega)]; first | assumption | exact up_s | (rw [up_n (by omega)]; first | assumption | exact up_s | (rw [up_n (by omega)]; first | assumption | exact up_s | (rw [up_n (by omega)]; first | assumption | exact up_s | (rw [up_n (by omega)]; first | assumption | exact up_s)))))) rfl 2 (by decide) (hq _ q620 rfl) (fun _ h9 => h9) (by rfl) dX4_bodyFor_9 ?_
  refine lv_dadd hx hb dX4_bodyFor_12 (fBody_no hms hk) ?_
  rw [hQ]
  exact k_dret hx hb hr hlocks hW hS (by omega) (by omega) dX4_bodyFor_13 (⟨rfl, rfl, rfl⟩)

set_option maxHeartbeats 4000000 in
set_option maxRecDepth 100000 in
/-- TailorBench$Piece.tallFor  -/
theorem c_tallFor {l : Launch} {D : va_G} {cy : Nat → ClassId} {sad : Nat → Nat} {em : Nat} {s0 : State} {a0 : Array Value} (G : kG kSTR l D cy sad em s0 a0) {ad : Nat → Nat} {ct : Nat → Option va_E} {kc : Nat} {pc : tPc} (hpc : ct kc = some (oPc pc)) {kp : Nat} {num : Int32} {ms : Nat → Nat} (hp : ct kp = some (oPer num ms)) (hms : okMs ms) (hk : okPc pc) :
    KM l yX4_tallFor [.code yX4_tallFor prog_6_method_3_code 2 (some .double)] 2 42 0 0 [.ref (ad kc), .ref (ad kp)] D s0 ad ct (fun v ad' ct' => v = some (.double (fTall ms pc)) ∧ ad' = ad ∧ ct' = ct) := by
  refine KM.of G (by decide) (Nat.le_of_ble_eq_true rfl) (Nat.le_of_ble_eq_true rfl) ?_
  intro p e s m args below meth c ls Q hQ X hin hL hW hS
  obtain ⟨hx, hb, hr, hml, hown, hlocks, hts, hq, hK, hI⟩ := X
  refine lv_aload_n hx hb dX4_tallFor_0 rfl (hL.at 1 rfl) ?_
  refine lv_aload_n hx hb dX4_tallFor_1 rfl (hL.at 0 rfl) ?_
  refine k_get (ci := 6) (C := RX4) (T := TX4) (N := 4) hx hb hts w_RX4 hown hK hW (by first | assumption | exact up_s | (rw [up_n (by omega)]; first | assumption | exact up_s | (rw [up_n (by omega)]; first | assumption | exact up_s | (rw [up_n (by omega)]; first | assumption | exact up_s | (rw [up_n (by omega)]; first | assumption | exact up_s | (rw [up_n (by omega)]; first | assumption | exact up_s)))))) rfl 1 (by decide) (hq _ q619 rfl) (fun _ h9 => h9) (by rfl) dX4_tallFor_2 ?_
  refine k_callS hx hb hml hown hts hI hS hW hL.1 (c_partOf G hp hms hk.2.1) (m4 (gT_in q345 rfl) (gT_in q346 rfl) (gT_in q77 rfl) (gT_in q347 rfl)) (show kpar yX4_partOf 2 from ⟨by decide, by decide, by decide +kernel⟩) ⟨by decide, by decide⟩ (by show _ ≤ (0 : Nat); omega) (by show _ ≤ (0 : Nat); omega) rfl (by decide) dX4_tallFor_5 (fun v ad5 ct5 H locs hp hW hS => ?_)
  obtain ⟨rfl, h1, h2⟩ := hp
  rw [h1, h2] at hW
  rw [hQ]
  exact k_dret hx hb hr hlocks hW hS (by omega) (by omega) dX4_tallFor_8 (⟨rfl, rfl, rfl⟩)

set_option maxHeartbeats 4000000 in
set_option maxRecDepth 100000 in
/-- TailorBench$Cloth.leftByWashing  -/
theorem c_left {l : Launch} {D : va_G} {cy : Nat → ClassId} {sad : Nat → Nat} {em : Nat} {s0 : State} {a0 : Array Value} (G : kG kSTR l D cy sad em s0 a0) {ad : Nat → Nat} {ct : Nat → Option va_E} {kc : Nat} {cl : tCl} (hc : ct kc = some (oCl cl)) (hk : cl.2.2.1 < 9) :
    KM l yX0_leftByWashing [.code yX0_leftByWashing prog_2_method_2_code 1 (some .double)] 0 0 0 0 [.ref (ad kc)] D s0 ad ct (fun v ad' ct' => v = some (.double (fLeft cl.2.2.1)) ∧ ad' = ad ∧ ct' = ct) := by
  refine KM.of G (by decide) (Nat.le_of_ble_eq_true rfl) (Nat.le_of_ble_eq_true rfl) ?_
  intro p e s m args below meth c ls Q hQ X hin hL hW hS
  obtain ⟨hx, hb, hr, hml, hown, hlocks, hts, hq, hK, hI⟩ := X
  refine lv_dconst1 hx hb dX0_leftByWashing_0 ?_
  refine lv_aload_n hx hb dX0_leftByWashing_1 rfl (hL.at 0 rfl) ?_
  refine k_get (ci := 2) (C := RX0) (T := TX0) (N := 6) hx hb hts w_RX0 hown hK hW (by first | assumption | exact up_s | (rw [up_n (by omega)]; first | assumption | exact up_s | (rw [up_n (by omega)]; first | assumption | exact up_s | (rw [up_n (by omega)]; first | assumption | exact up_s | (rw [up_n (by omega)]; first | assumption | exact up_s | (rw [up_n (by omega)]; first | assumption | exact up_s)))))) rfl 5 (by decide) (hq _ q483 rfl) (fun _ h9 => h9) (by rfl) dX0_leftByWashing_2 ?_
  refine lv_f2d hx hb dX0_leftByWashing_5 (fShr_no hk) ?_
  refine lv_dsub hx hb dX0_leftByWashing_6 (fLeft_no hk) ?_
  rw [hQ]
  exact k_dret hx hb hr hlocks hW hS (by omega) (by omega) dX0_leftByWashing_7 (⟨rfl, rfl, rfl⟩)

set_option maxHeartbeats 4000000 in
set_option maxRecDepth 100000 in
/-- TailorBench.isOutside  -/
theorem c_isOutside {l : Launch} {D : va_G} {cy : Nat → ClassId} {sad : Nat → Nat} {em : Nat} {s0 : State} {a0 : Array Value} (G : kG kSTR l D cy sad em s0 a0) {ad : Nat → Nat} {ct : Nat → Option va_E} (x a b : Int32) :
    KM l yX7_isOutside [.code yX7_isOutside prog_1_method_41_code 3 (some .boolean)] 0 0 0 0 [.int x, .int a, .int b] D s0 ad ct (fun v ad' ct' => v = some (.int (if x < a ∨ b < x then 1 else 0)) ∧ ad' = ad ∧ ct' = ct) := by
  refine KM.of G (by decide) (Nat.le_of_ble_eq_true rfl) (Nat.le_of_ble_eq_true rfl) ?_
  intro p e s m args below meth c ls Q hQ X hin hL hW hS
  obtain ⟨hx, hb, hr, hml, hown, hlocks, hts, hq, hK, hI⟩ := X
  refine lv_iload_n hx hb dX7_isOutside_0 rfl (hL.at 0 rfl) ?_
  refine lv_iload_n hx hb dX7_isOutside_1 rfl (hL.at 1 rfl) ?_
  refine lv_icmp_lt (tgt := 10) hx hb dX7_isOutside_2 (by decide) (fun c2 => ?_) (fun c2 => ?_)
  · try dsimp only at c2
    refine lv_iconst (v := 1) hx hb dX7_isOutside_10 (by decide) ?_
    refine lv_goto (tgt := 15) hx hb dX7_isOutside_11 (by decide) ?_
    rw [hQ]
    exact k_zret hx hb hr hlocks rfl hW hS (by omega) (by omega) dX7_isOutside_15 (⟨by simp [*], rfl, rfl⟩)
  · try dsimp only at c2
    refine lv_iload_n hx hb dX7_isOutside_5 rfl (hL.at 0 rfl) ?_
    refine lv_iload_n hx hb dX7_isOutside_6 rfl (hL.at 2 rfl) ?_
    refine lv_icmp_le (tgt := 14) hx hb dX7_isOutside_7 (by decide) (fun c7 => ?_) (fun c7 => ?_)
    · try dsimp only at c7
      refine lv_iconst (v := 0) hx hb dX7_isOutside_14 (by decide) ?_
      rw [hQ]
      exact k_zret hx hb hr hlocks rfl hW hS (by omega) (by omega) dX7_isOutside_15 (⟨by simp [*], rfl, rfl⟩)
    · try dsimp only at c7
      refine lv_iconst (v := 1) hx hb dX7_isOutside_10 (by decide) ?_
      refine lv_goto (tgt := 15) hx hb dX7_isOutside_11 (by decide) ?_
      rw [hQ]
      exact k_zret hx hb hr hlocks rfl hW hS (by omega) (by omega) dX7_isOutside_15 (⟨by simp [*], rfl, rfl⟩)

set_option maxHeartbeats 4000000 in
set_option maxRecDepth 100000 in
/-- TailorBench.isNoMeasure  -/
theorem c_isNoMeasure {l : Launch} {D : va_G} {cy : Nat → ClassId} {sad : Nat → Nat} {em : Nat} {s0 : State} {a0 : Array Value} (G : kG kSTR l D cy sad em s0 a0) {ad : Nat → Nat} {ct : Nat → Option va_E} (x : Int32) :
    KM l yX7_isNoMeasure [.code yX7_isNoMeasure prog_1_method_42_code 1 (some .boolean)] 1 22 0 0 [.int x] D s0 ad ct (fun v ad' ct' => v = some (.int (if x < 50 ∨ 200 < x then 1 else 0)) ∧ ad' = ad ∧ ct' = ct) := by
  refine KM.of G (by decide) (Nat.le_of_ble_eq_true rfl) (Nat.le_of_ble_eq_true rfl) ?_
  intro p e s m args below meth c ls Q hQ X hin hL hW hS
  obtain ⟨hx, hb, hr, hml, hown, hlocks, hts, hq, hK, hI⟩ := X
  refine lv_iload_n hx hb dX7_isNoMeasure_0 rfl (hL.at 0 rfl) ?_
  refine lv_bipush (v := 50) hx hb dX7_isNoMeasure_1 (by decide) ?_
  refine lv_sipush (v := 200) hx hb dX7_isNoMeasure_3 (by decide) ?_
  refine k_callS hx hb hml hown hts hI hS hW hL.1 (c_isOutside G x 50 200) (m4 (gT_in q421 rfl) (gT_in q422 rfl) (gT_in q55 rfl) (gT_in q423 rfl)) (show kpar yX7_isOutside 3 from ⟨by decide, by decide, by decide +kernel⟩) ⟨by decide, by decide⟩ (by show _ ≤ (0 : Nat); omega) (by show _ ≤ (0 : Nat); omega) rfl (by decide) dX7_isNoMeasure_6 (fun v ad6 ct6 H locs hp hW hS => ?_)
  obtain ⟨rfl, h1, h2⟩ := hp
  rw [h1, h2] at hW
  rw [hQ]
  exact k_zret hx hb hr hlocks (by split <;> rfl) hW hS (by omega) (by omega) dX7_isNoMeasure_9 (⟨rfl, rfl, rfl⟩)

set_option maxHeartbeats 4000000 in
set_option maxRecDepth 100000 in
/-- TailorBench.isNoPart  -/
theorem c_isNoPart {l : Launch} {D : va_G} {cy : Nat → ClassId} {sad : Nat → Nat} {em : Nat} {s0 : State} {a0 : Array Value} (G : kG kSTR l D cy sad em s0 a0) {ad : Nat → Nat} {ct : Nat → Option va_E} (x : Int32) :
    KM l yX7_isNoPart [.code yX7_isNoPart prog_1_method_43_code 1 (some .boolean)] 1 22 0 0 [.int x] D s0 ad ct (fun v ad' ct' => v = some (.int (if ((x < 0 ∨ 38 < x) ∨ (x - x / 10 * 10 < 1 ∨ 8 < x - x / 10 * 10)) then 1 else 0)) ∧ ad' = ad ∧ ct' = ct) := by
  refine KM.of G (by decide) (Nat.le_of_ble_eq_true rfl) (Nat.le_of_ble_eq_true rfl) ?_
  intro p e s m args below meth c ls Q hQ X hin hL hW hS
  obtain ⟨hx, hb, hr, hml, hown, hlocks, hts, hq, hK, hI⟩ := X
  refine lv_iload_n hx hb dX7_isNoPart_0 rfl (hL.at 0 rfl) ?_
  refine lv_iconst (v := 0) hx hb dX7_isNoPart_1 (by decide) ?_
  refine lv_bipush (v := 38) hx hb dX7_isNoPart_2 (by decide) ?_
  refine k_callS hx hb hml hown hts hI hS hW hL.1 (c_isOutside G x 0 38) (m4 (gT_in q421 rfl) (gT_in q422 rfl) (gT_in q55 rfl) (gT_in q423 rfl)) (show kpar yX7_isOutside 3 from ⟨by decide, by decide, by decide +kernel⟩) ⟨by decide, by decide⟩ (by show _ ≤ (0 : Nat); omega) (by show _ ≤ (0 : Nat); omega) rfl (by decide) dX7_isNoPart_4 (fun v ad4 ct4 H locs hp hW hS => ?_)
  obtain ⟨rfl, h1, h2⟩ := hp
  rw [h1, h2] at hW
  refine lv_if_ne (tgt := 23) hx hb dX7_isNoPart_7 (by decide) (fun c7 => ?_) (fun c7 => ?_)
  · try simp only [b2_eq, Decidable.not_not] at c7
    try dsimp only at c7
    refine lv_iconst (v := 1) hx hb dX7_isNoPart_23 (by decide) ?_
    refine lv_goto (tgt := 28) hx hb dX7_isNoPart_24 (by decide) ?_
    rw [hQ]
    exact k_zret hx hb hr hlocks rfl hW hS (by omega) (by omega) dX7_isNoPart_28 (⟨by simp only [*, if_true, if_false, true_or, or_true, or_false, false_or], rfl, rfl⟩)
  · try simp only [b2_eq, Decidable.not_not] at c7
    try dsimp only at c7
    refine lv_iload_n hx hb dX7_isNoPart_10 rfl (hL.at 0 rfl) ?_
    refine lv_bipush (v := 10) hx hb dX7_isNoPart_11 (by decide) ?_
    refine lv_irem hx hb dX7_isNoPart_13 (by decide) ?_
    refine lv_iconst (v := 1) hx hb dX7_isNoPart_14 (by decide) ?_
    refine lv_bipush (v := 8) hx hb dX7_isNoPart_15 (by decide) ?_
    refine k_callS hx hb hml hown hts hI hS hW hL.1 (c_isOutside G (x - x / 10 * 10) 1 8) (m4 (gT_in q421 rfl) (gT_in q422 rfl) (gT_in q55 rfl) (gT_in q423 rfl)) (show kpar yX7_isOutside 3 from ⟨by decide, by decide, by decide +kernel⟩) ⟨by decide, by decide⟩ (by show _ ≤ (0 : Nat); omega) (by show _ ≤ (0 : Nat); omega) rfl (by decide) dX7_isNoPart_17 (fun v ad17 ct17 H locs hp hW hS => ?_)
    obtain ⟨rfl, h1, h2⟩ := hp
    rw [h1, h2] at hW
    refine lv_if_eq (tgt := 27) hx hb dX7_isNoPart_20 (by decide) (fun c20 => ?_) (fun c20 => ?_)
    · try simp only [b2_eq, Decidable.not_not] at c20
      try dsimp only at c20
      refine lv_iconst (v := 0) hx hb dX7_isNoPart_27 (by decide) ?_
      rw [hQ]
      exact k_zret hx hb hr hlocks rfl hW hS (by omega) (by omega) dX7_isNoPart_28 (⟨by simp only [*, if_true, if_false, true_or, or_true, or_false, false_or], rfl, rfl⟩)
    · try simp only [b2_eq, Decidable.not_not] at c20
      try dsimp only at c20
      refine lv_iconst (v := 1) hx hb dX7_isNoPart_23 (by decide) ?_
      refine lv_goto (tgt := 28) hx hb dX7_isNoPart_24 (by decide) ?_
      rw [hQ]
      exact k_zret hx hb hr hlocks rfl hW hS (by omega) (by omega) dX7_isNoPart_28 (⟨by simp only [*, if_true, if_false, true_or, or_true, or_false, false_or], rfl, rfl⟩)

set_option maxHeartbeats 4000000 in
set_option maxRecDepth 100000 in
/-- TailorBench.nextWhole  -/
theorem c_nextWhole {l : Launch} {D : va_G} {cy : Nat → ClassId} {sad : Nat → Nat} {em : Nat} {s0 : State} {a0 : Array Value} (G : kG kSTR l D cy sad em s0 a0) {ad : Nat → Nat} {ct : Nat → Option va_E} (x : UInt64) :
    KM l yX7_nextWhole [.code yX7_nextWhole prog_1_method_44_code 4 (some .double)] 0 0 0 0 [.double x] D s0 ad ct (fun v ad' ct' => v = some (.double (fNext x)) ∧ ad' = ad ∧ ct' = ct) := by
  refine KM.of G (by decide) (Nat.le_of_ble_eq_true rfl) (Nat.le_of_ble_eq_true rfl) ?_
  intro p e s m args below meth c ls Q hQ X hin hL hW hS
  obtain ⟨hx, hb, hr, hml, hown, hlocks, hts, hq, hK, hI⟩ := X
  refine lv_dload_n hx hb dX7_nextWhole_0 rfl (hL.at 0 rfl) ?_
  refine lv_d2l hx hb dX7_nextWhole_1 ?_
  refine k_lst_n hx hb hL (i := 2) rfl (by decide) dX7_nextWhole_2 (fun ls hL => ?_)
  refine lv_lload_n hx hb dX7_nextWhole_3 rfl (hL.at 2 rfl) ?_
  refine lv_l2d hx hb dX7_nextWhole_4 ?_
  refine lv_dload_n hx hb dX7_nextWhole_5 rfl (hL.at 0 rfl) ?_
  refine lv_dcmp hx hb dX7_nextWhole_6 ?_
  refine lv_if_ge (tgt := 17) hx hb dX7_nextWhole_7 (by decide) (fun c7 => ?_) (fun c7 => ?_)
  · rw [cg_ge] at c7
    refine lv_lload_n hx hb dX7_nextWhole_17 rfl (hL.at 2 rfl) ?_
    refine lv_l2d hx hb dX7_nextWhole_18 ?_
    rw [hQ]
    exact k_dret hx hb hr hlocks hW hS (by omega) (by omega) dX7_nextWhole_19 (⟨by unfold fNext; simp [*], rfl, rfl⟩)
  · rw [cg_ge] at c7
    refine lv_lload_n hx hb dX7_nextWhole_10 rfl (hL.at 2 rfl) ?_
    refine lv_lconst (v := 1) hx hb dX7_nextWhole_11 (by decide) ?_
    refine lv_ladd hx hb dX7_nextWhole_12 ?_
    refine lv_l2d hx hb dX7_nextWhole_13 ?_
    refine lv_goto (tgt := 19) hx hb dX7_nextWhole_14 (by decide) ?_
    rw [hQ]
    exact k_dret hx hb hr hlocks hW hS (by omega) (by omega) dX7_nextWhole_19 (⟨by unfold fNext; simp [*], rfl, rfl⟩)

set_option maxHeartbeats 4000000 in
set_option maxRecDepth 100000 in
/-- TailorBench.mixed  -/
theorem c_mixed {l : Launch} {D : va_G} {cy : Nat → ClassId} {sad : Nat → Nat} {em : Nat} {s0 : State} {a0 : Array Value} (G : kG kSTR l D cy sad em s0 a0) {ad : Nat → Nat} {ct : Nat → Option va_E} (x y : Int64) :
    KM l yX7_mixed [.code yX7_mixed prog_1_method_45_code 4 (some .long)] 0 0 0 0 [.long x, .long y] D s0 ad ct (fun v ad' ct' => v = some (.long (x * 31 + y)) ∧ ad' = ad ∧ ct' = ct) := by
  refine KM.of G (by decide) (Nat.le_of_ble_eq_true rfl) (Nat.le_of_ble_eq_true rfl) ?_
  intro p e s m args below meth c ls Q hQ X hin hL hW hS
  obtain ⟨hx, hb, hr, hml, hown, hlocks, hts, hq, hK, hI⟩ := X
  refine lv_lload_n hx hb dX7_mixed_0 rfl (hL.at 0 rfl) ?_
  refine lv_ldc2 hx hb hown (hq _ q291 rfl) dX7_mixed_1 ?_
  refine lv_lmul hx hb dX7_mixed_4 ?_
  refine lv_lload_n hx hb dX7_mixed_5 rfl (hL.at 2 rfl) ?_
  refine lv_ladd hx hb dX7_mixed_6 ?_
  rw [hQ]
  exact k_lret hx hb hr hlocks hW hS (by omega) (by omega) dX7_mixed_7 (⟨rfl, rfl, rfl⟩)

set_option maxHeartbeats 4000000 in
set_option maxRecDepth 100000 in
/-- TailorBench.in64ths  -/
theorem c_in64ths {l : Launch} {D : va_G} {cy : Nat → ClassId} {sad : Nat → Nat} {em : Nat} {s0 : State} {a0 : Array Value} (G : kG kSTR l D cy sad em s0 a0) {ad : Nat → Nat} {ct : Nat → Option va_E} (x : UInt64) (hxn : vf_n64 (FP.dmul cD64 x)) :
    KM l yX7_in64ths [.code yX7_in64ths prog_1_method_46_code 2 (some .long)] 0 0 0 0 [.double x] D s0 ad ct (fun v ad' ct' => v = some (.long (FP.d2l (FP.dmul cD64 x))) ∧ ad' = ad ∧ ct' = ct) := by
  refine KM.of G (by decide) (Nat.le_of_ble_eq_true rfl) (Nat.le_of_ble_eq_true rfl) ?_
  intro p e s m args below meth c ls Q hQ X hin hL hW hS
  obtain ⟨hx, hb, hr, hml, hown, hlocks, hts, hq, hK, hI⟩ := X
  refine lv_ldc2d hx hb hown (hq _ q320 rfl) dX7_in64ths_0 ?_
  refine lv_dload_n hx hb dX7_in64ths_3 rfl (hL.at 0 rfl) ?_
  refine lv_dmul hx hb dX7_in64ths_4 hxn ?_
  refine lv_d2l hx hb dX7_in64ths_5 ?_
  rw [hQ]
  exact k_lret hx hb hr hlocks hW hS (by omega) (by omega) dX7_in64ths_6 (⟨rfl, rfl, rfl⟩)
