/-! the law: its wrappers -/
set_option maxHeartbeats 2000000 in
set_option maxRecDepth 100000 in
/-- TailorBenchLaw.cloth  -/
theorem w_cloth {l : Launch} {D : va_G} {cy : Nat → ClassId} {sad : Nat → Nat} {em : Nat} {s0 : State} {a0 : Array Value} (G : kG kSTR l D cy sad em s0 a0) {ad : Nat → Nat} {ct : Nat → Option va_E} (N3 : kN3 s0) {Post : kPT} {PX : String → Prop} {x1 : Int32} {x2 : Int32} {x3 : Int32} {x4 : Int32} {x5 : Int32} {x6 : Int32} (hM : KX l yX7_cloth [.code yX7_cloth prog_1_method_2_code 7 (some .int)] 6 90 2 12 [.ref (ad 1), .int x1, .int x2, .int x3, .int x4, .int x5, .int x6] D s0 ad ct Post PX) (hPX : ∀ E, PX E → E = eArg ∨ E = eSta) (hRt : ∀ v ad' ct', Post v ad' ct' → ∃ a : Int32, v = some (.int a)) {fo : Nat → Int64} (hO : ∀ v ad' ct', Post v ad' ct' → ad' 90 = ad 90 ∧ ct' 90 = some (.inl (cy 3, 1, aL fo))) {c1 : List Value} (h1c : ct 1 = some (.inr (9, c1))) :
    KM l yL_cloth [.codeWith yL_cloth method_3_code 9 (some .int) [(0, 18, 21, 13), (0, 18, 25, 15)]] 7 116 2 12 [.ref (ad 1), .int x1, .int x2, .int x3, .int x4, .int x5, .int x6, .ref (ad 90)] D s0 ad ct (fun v ad' ct' => (∃ (a : Int32) (ct1 : Nat → Option va_E), Post (some (.int a)) ad' ct1 ∧ v = some (.int 0) ∧ ct' = up ct1 90 (.inl (cy 3, 1, aL (vp_updL fo 0 a.toInt64)))) ∨ (((PX eArg ∧ v = some (.int 1)) ∨ (PX eSta ∧ v = some (.int 2))) ∧ ad' = ad ∧ ct' = ct)) := by
  refine KM.ofH G (by decide) (Nat.le_of_ble_eq_true rfl) (Nat.le_of_ble_eq_true rfl) ?_
  intro p e s m args below meth c ls Q hQ X ht hL hW hS
  obtain ⟨hx, hb, hr, hml, hown, hlocks, hts, hq, hK, hI⟩ := X
  replace hL := hL.nrm (l' := [some _, some _, some _, some _, some _, some _, some _, some _, none]) rfl
  refine lv_aload hx hb dL_cloth_0 (hL.at 7 rfl) ?_
  refine lv_iconst (v := 0) hx hb dL_cloth_2 (by decide) ?_
  refine lv_aload_n hx hb dL_cloth_3 rfl (hL.at 0 rfl) ?_
  refine lv_iload_n hx hb dL_cloth_4 rfl (hL.at 1 rfl) ?_
  refine lv_iload_n hx hb dL_cloth_5 rfl (hL.at 2 rfl) ?_
  refine lv_iload_n hx hb dL_cloth_6 rfl (hL.at 3 rfl) ?_
  refine lv_iload hx hb dL_cloth_7 (hL.at 4 rfl) ?_
  refine lv_iload hx hb dL_cloth_9 (hL.at 5 rfl) ?_
  refine lv_iload hx hb dL_cloth_11 (hL.at 6 rfl) ?_
  refine k_callVX (q := (RX7, TX7, 15)) hx hb hml hown hts hK hI hS hW hL.1 h1c rfl (hM) (m5 (gT_in q444 rfl) (gT_in q445 rfl) (gT_in q446 rfl) (gT_in q55 rfl) (gT_in q447 rfl)) rfl (show kpar yX7_cloth 6 from ⟨by decide, by decide, by decide +kernel⟩) ⟨by decide, by decide⟩ (by show _ ≤ (2 : Nat); omega) (by show _ ≤ (12 : Nat); omega) rfl (by first | decide | exact Nat.le_of_ble_eq_true rfl) dL_cloth_13 (fun E ce q9 H locs hp hW hS hce hcv hcl => ?_) (fun v ad13 ct13 H locs hp hW hS => ?_)
  · rcases hPX E hp with rfl | rfl
    · refine k_catch (own := "TailorBenchLaw") (E := eArg) hown ht [] [(0, 18, 25, 15)] (0, 18, 21, 13) rfl (fun z hz => nomatch hz) (by decide) (by decide) (hq _ q442 rfl) (hq _ q222 rfl) hce hcv hcl ?_
      refine k_ast hx hb hL (i := 8) (by decide) dL_cloth_21 (fun ls hL => ?_)
      refine lv_iconst (v := 1) hx hb dL_cloth_23 (by decide) ?_
      rw [hQ]
      exact k_iret hx hb hr hlocks hW hS (by omega) (by omega) dL_cloth_24 (Or.inr ⟨Or.inl ⟨hp, rfl⟩, rfl, rfl⟩)
    · refine k_catch (own := "TailorBenchLaw") (E := eSta) hown ht [(0, 18, 21, 13)] [] (0, 18, 25, 15) rfl (fun z hz => by
        simp only [List.mem_cons, List.not_mem_nil, or_false] at hz
        subst hz
        exact ⟨by decide, _, hq _ q442 rfl, va_Nc.moved hI.1.alike N3.1⟩) (by decide) (by decide) (hq _ q443 rfl) (hq _ q451 rfl) hce hcv hcl ?_
      refine k_ast hx hb hL (i := 8) (by decide) dL_cloth_25 (fun ls hL => ?_)
      refine lv_iconst (v := 2) hx hb dL_cloth_27 (by decide) ?_
      rw [hQ]
      exact k_iret hx hb hr hlocks hW hS (by omega) (by omega) dL_cloth_28 (Or.inr ⟨Or.inr (⟨hp, rfl⟩), rfl, rfl⟩)
  obtain ⟨a, rfl⟩ := hRt _ _ _ hp
  obtain ⟨hO1, hO2⟩ := hO _ _ _ hp
  rw [← hO1]
  refine lv_i2l hx hb dL_cloth_16 rfl ?_
  refine k_last hx hb hK hW hS hO2 (by omega) 0 (by omega) (by omega) rfl dL_cloth_17 (fun H locs hW hS => ?_)
  refine lv_goto (tgt := 29) hx hb dL_cloth_18 (by decide) ?_
  refine lv_iconst (v := 0) hx hb dL_cloth_29 (by decide) ?_
  rw [hQ]
  exact k_iret hx hb hr hlocks hW hS (by omega) (by omega) dL_cloth_30 (Or.inl ⟨a, _, hp, rfl, rfl⟩)

set_option maxHeartbeats 2000000 in
set_option maxRecDepth 100000 in
/-- TailorBenchLaw.wash  -/
theorem w_wash {l : Launch} {D : va_G} {cy : Nat → ClassId} {sad : Nat → Nat} {em : Nat} {s0 : State} {a0 : Array Value} (G : kG kSTR l D cy sad em s0 a0) {ad : Nat → Nat} {ct : Nat → Option va_E} (N3 : kN3 s0) {Post : kPT} {PX : String → Prop} {x1 : Int32} (hM : KX l yX7_wash [.code yX7_wash prog_1_method_3_code 5 (some .double)] 7 120 2 12 [.ref (ad 1), .int x1] D s0 ad ct Post PX) (hPX : ∀ E, PX E → E = eIdx) (hRt : ∀ v ad' ct', Post v ad' ct' → ∃ a : UInt64, v = some (.double a)) {fo : Nat → UInt64} (hO : ∀ v ad' ct', Post v ad' ct' → ad' 91 = ad 91 ∧ ct' 91 = some (.inl (cy 0, 1, aD fo))) {c1 : List Value} (h1c : ct 1 = some (.inr (9, c1))) :
    KM l yL_wash [.codeWith yL_wash method_4_code 4 (some .int) [(0, 8, 11, 21)]] 8 144 2 12 [.ref (ad 1), .int x1, .ref (ad 91)] D s0 ad ct (fun v ad' ct' => (∃ (a : UInt64) (ct1 : Nat → Option va_E), Post (some (.double a)) ad' ct1 ∧ v = some (.int 0) ∧ ct' = up ct1 91 (.inl (cy 0, 1, aD (vf_upd fo 0 a)))) ∨ (((PX eIdx ∧ v = some (.int 1))) ∧ ad' = ad ∧ ct' = ct)) := by
  refine KM.ofH G (by decide) (Nat.le_of_ble_eq_true rfl) (Nat.le_of_ble_eq_true rfl) ?_
  intro p e s m args below meth c ls Q hQ X ht hL hW hS
  obtain ⟨hx, hb, hr, hml, hown, hlocks, hts, hq, hK, hI⟩ := X
  replace hL := hL.nrm (l' := [some _, some _, some _, none]) rfl
  refine lv_aload_n hx hb dL_wash_0 rfl (hL.at 2 rfl) ?_
  refine lv_iconst (v := 0) hx hb dL_wash_1 (by decide) ?_
  refine lv_aload_n hx hb dL_wash_2 rfl (hL.at 0 rfl) ?_
  refine lv_iload_n hx hb dL_wash_3 rfl (hL.at 1 rfl) ?_
  refine k_callVX (q := (RX7, TX7, 15)) hx hb hml hown hts hK hI hS hW hL.1 h1c rfl (hM) (m5 (gT_in q502 rfl) (gT_in q503 rfl) (gT_in q504 rfl) (gT_in q55 rfl) (gT_in q505 rfl)) rfl (show kpar yX7_wash 1 from ⟨by decide, by decide, by decide +kernel⟩) ⟨by decide, by decide⟩ (by show _ ≤ (2 : Nat); omega) (by show _ ≤ (12 : Nat); omega) rfl (by first | decide | exact Nat.le_of_ble_eq_true rfl) dL_wash_4 (fun E ce q9 H locs hp hW hS hce hcv hcl => ?_) (fun v ad4 ct4 H locs hp hW hS => ?_)
  · have hE9 := hPX E hp
    subst hE9
    refine k_catch (own := "TailorBenchLaw") (E := eIdx) hown ht [] [] (0, 8, 11, 21) rfl (fun z hz => nomatch hz) (by decide) (by decide) (hq _ q501 rfl) (hq _ q302 rfl) hce hcv hcl ?_
    refine k_ast_n hx hb hL (i := 3) rfl (by decide) dL_wash_11 (fun ls hL => ?_)
    refine lv_iconst (v := 1) hx hb dL_wash_12 (by decide) ?_
    rw [hQ]
    exact k_iret hx hb hr hlocks hW hS (by omega) (by omega) dL_wash_13 (Or.inr ⟨⟨hp, rfl⟩, rfl, rfl⟩)
  obtain ⟨a, rfl⟩ := hRt _ _ _ hp
  obtain ⟨hO1, hO2⟩ := hO _ _ _ hp
  rw [← hO1]
  refine k_dast hx hb hK hW hS hO2 (by omega) 0 (by omega) (by omega) rfl dL_wash_7 (fun H locs hW hS => ?_)
  refine lv_goto (tgt := 14) hx hb dL_wash_8 (by decide) ?_
  refine lv_iconst (v := 0) hx hb dL_wash_14 (by decide) ?_
  rw [hQ]
  exact k_iret hx hb hr hlocks hW hS (by omega) (by omega) dL_wash_15 (Or.inl ⟨a, _, hp, rfl, rfl⟩)

set_option maxHeartbeats 2000000 in
set_option maxRecDepth 100000 in
/-- TailorBenchLaw.person  -/
theorem w_person {l : Launch} {D : va_G} {cy : Nat → ClassId} {sad : Nat → Nat} {em : Nat} {s0 : State} {a0 : Array Value} (G : kG kSTR l D cy sad em s0 a0) {ad : Nat → Nat} {ct : Nat → Option va_E} (N3 : kN3 s0) {Post : kPT} {PX : String → Prop} {x1 : Int32} {x2 : Int32} {x3 : Int32} {x4 : Int32} (hM : KX l yX7_person [.code yX7_person prog_1_method_4_code 5 (some .int)] 6 90 2 12 [.ref (ad 1), .int x1, .int x2, .int x3, .int x4] D s0 ad ct Post PX) (hPX : ∀ E, PX E → E = eArg ∨ E = eSta) (hRt : ∀ v ad' ct', Post v ad' ct' → ∃ a : Int32, v = some (.int a)) {fo : Nat → Int64} (hO : ∀ v ad' ct', Post v ad' ct' → ad' 90 = ad 90 ∧ ct' 90 = some (.inl (cy 3, 1, aL fo))) {c1 : List Value} (h1c : ct 1 = some (.inr (9, c1))) :
    KM l yL_person [.codeWith yL_person method_5_code 7 (some .int) [(0, 14, 17, 13), (0, 14, 21, 15)]] 7 114 2 12 [.ref (ad 1), .int x1, .int x2, .int x3, .int x4, .ref (ad 90)] D s0 ad ct (fun v ad' ct' => (∃ (a : Int32) (ct1 : Nat → Option va_E), Post (some (.int a)) ad' ct1 ∧ v = some (.int 0) ∧ ct' = up ct1 90 (.inl (cy 3, 1, aL (vp_updL fo 0 a.toInt64)))) ∨ (((PX eArg ∧ v = some (.int 1)) ∨ (PX eSta ∧ v = some (.int 2))) ∧ ad' = ad ∧ ct' = ct)) := by
  refine KM.ofH G (by decide) (Nat.le_of_ble_eq_true rfl) (Nat.le_of_ble_eq_true rfl) ?_
  intro p e s m args below meth c ls Q hQ X ht hL hW hS
  obtain ⟨hx, hb, hr, hml, hown, hlocks, hts, hq, hK, hI⟩ := X
  replace hL := hL.nrm (l' := [some _, some _, some _, some _, some _, some _, none]) rfl
  refine lv_aload hx hb dL_person_0 (hL.at 5 rfl) ?_
  refine lv_iconst (v := 0) hx hb dL_person_2 (by decide) ?_
  refine lv_aload_n hx hb dL_person_3 rfl (hL.at 0 rfl) ?_
  refine lv_iload_n hx hb dL_person_4 rfl (hL.at 1 rfl) ?_
  refine lv_iload_n hx hb dL_person_5 rfl (hL.at 2 rfl) ?_
  refine lv_iload_n hx hb dL_person_6 rfl (hL.at 3 rfl) ?_
  refine lv_iload hx hb dL_person_7 (hL.at 4 rfl) ?_
  refine k_callVX (q := (RX7, TX7, 15)) hx hb hml hown hts hK hI hS hW hL.1 h1c rfl (hM) (m5 (gT_in q510 rfl) (gT_in q511 rfl) (gT_in q512 rfl) (gT_in q55 rfl) (gT_in q513 rfl)) rfl (show kpar yX7_person 4 from ⟨by decide, by decide, by decide +kernel⟩) ⟨by decide, by decide⟩ (by show _ ≤ (2 : Nat); omega) (by show _ ≤ (12 : Nat); omega) rfl (by first | decide | exact Nat.le_of_ble_eq_true rfl) dL_person_9 (fun E ce q9 H locs hp hW hS hce hcv hcl => ?_) (fun v ad9 ct9 H locs hp hW hS => ?_)
  · rcases hPX E hp with rfl | rfl
    · refine k_catch (own := "TailorBenchLaw") (E := eArg) hown ht [] [(0, 14, 21, 15)] (0, 14, 17, 13) rfl (fun z hz => nomatch hz) (by decide) (by decide) (hq _ q442 rfl) (hq _ q222 rfl) hce hcv hcl ?_
      refine k_ast hx hb hL (i := 6) (by decide) dL_person_17 (fun ls hL => ?_)
      refine lv_iconst (v := 1) hx hb dL_person_19 (by decide) ?_
      rw [hQ]
      exact k_iret hx hb hr hlocks hW hS (by omega) (by omega) dL_person_20 (Or.inr ⟨Or.inl ⟨hp, rfl⟩, rfl, rfl⟩)
    · refine k_catch (own := "TailorBenchLaw") (E := eSta) hown ht [(0, 14, 17, 13)] [] (0, 14, 21, 15) rfl (fun z hz => by
        simp only [List.mem_cons, List.not_mem_nil, or_false] at hz
        subst hz
        exact ⟨by decide, _, hq _ q442 rfl, va_Nc.moved hI.1.alike N3.1⟩) (by decide) (by decide) (hq _ q443 rfl) (hq _ q451 rfl) hce hcv hcl ?_
      refine k_ast hx hb hL (i := 6) (by decide) dL_person_21 (fun ls hL => ?_)
      refine lv_iconst (v := 2) hx hb dL_person_23 (by decide) ?_
      rw [hQ]
      exact k_iret hx hb hr hlocks hW hS (by omega) (by omega) dL_person_24 (Or.inr ⟨Or.inr (⟨hp, rfl⟩), rfl, rfl⟩)
  obtain ⟨a, rfl⟩ := hRt _ _ _ hp
  obtain ⟨hO1, hO2⟩ := hO _ _ _ hp
  rw [← hO1]
  refine lv_i2l hx hb dL_person_12 rfl ?_
  refine k_last hx hb hK hW hS hO2 (by omega) 0 (by omega) (by omega) rfl dL_person_13 (fun H locs hW hS => ?_)
  refine lv_goto (tgt := 25) hx hb dL_person_14 (by decide) ?_
  refine lv_iconst (v := 0) hx hb dL_person_25 (by decide) ?_
  rw [hQ]
  exact k_iret hx hb hr hlocks hW hS (by omega) (by omega) dL_person_26 (Or.inl ⟨a, _, hp, rfl, rfl⟩)

set_option maxHeartbeats 2000000 in
set_option maxRecDepth 100000 in
/-- TailorBenchLaw.measure  -/
theorem w_measure {l : Launch} {D : va_G} {cy : Nat → ClassId} {sad : Nat → Nat} {em : Nat} {s0 : State} {a0 : Array Value} (G : kG kSTR l D cy sad em s0 a0) {ad : Nat → Nat} {ct : Nat → Option va_E} (N3 : kN3 s0) {Post : kPT} {PX : String → Prop} {x1 : Int32} {x2 : Int32} {x3 : Int32} (hM : KX l yX7_measure [.code yX7_measure prog_1_method_5_code 6 (some .int)] 7 120 2 12 [.ref (ad 1), .int x1, .int x2, .int x3] D s0 ad ct Post PX) (hPX : ∀ E, PX E → E = eIdx ∨ E = eArg) (hRt : ∀ v ad' ct', Post v ad' ct' → ∃ a : Int32, v = some (.int a)) {fo : Nat → Int64} (hO : ∀ v ad' ct', Post v ad' ct' → ad' 90 = ad 90 ∧ ct' 90 = some (.inl (cy 3, 1, aL fo))) {c1 : List Value} (h1c : ct 1 = some (.inr (9, c1))) :
    KM l yL_measure [.codeWith yL_measure method_6_code 6 (some .int) [(0, 12, 15, 21), (0, 12, 19, 13)]] 8 145 2 12 [.ref (ad 1), .int x1, .int x2, .int x3, .ref (ad 90)] D s0 ad ct (fun v ad' ct' => (∃ (a : Int32) (ct1 : Nat → Option va_E), Post (some (.int a)) ad' ct1 ∧ v = some (.int 0) ∧ ct' = up ct1 90 (.inl (cy 3, 1, aL (vp_updL fo 0 a.toInt64)))) ∨ (((PX eIdx ∧ v = some (.int 1)) ∨ (PX eArg ∧ v = some (.int 2))) ∧ ad' = ad ∧ ct' = ct)) := by
  refine KM.ofH G (by decide) (Nat.le_of_ble_eq_true rfl) (Nat.le_of_ble_eq_true rfl) ?_
  intro p e s m args below meth c ls Q hQ X ht hL hW hS
  obtain ⟨hx, hb, hr, hml, hown, hlocks, hts, hq, hK, hI⟩ := X
  replace hL := hL.nrm (l' := [some _, some _, some _, some _, some _, none]) rfl
  refine lv_aload hx hb dL_measure_0 (hL.at 4 rfl) ?_
  refine lv_iconst (v := 0) hx hb dL_measure_2 (by decide) ?_
  refine lv_aload_n hx hb dL_measure_3 rfl (hL.at 0 rfl) ?_
  refine lv_iload_n hx hb dL_measure_4 rfl (hL.at 1 rfl) ?_
  refine lv_iload_n hx hb dL_measure_5 rfl (hL.at 2 rfl) ?_
  refine lv_iload_n hx hb dL_measure_6 rfl (hL.at 3 rfl) ?_
  refine k_callVX (q := (RX7, TX7, 15)) hx hb hml hown hts hK hI hS hW hL.1 h1c rfl (hM) (m5 (gT_in q543 rfl) (gT_in q544 rfl) (gT_in q545 rfl) (gT_in q55 rfl) (gT_in q546 rfl)) rfl (show kpar yX7_measure 3 from ⟨by decide, by decide, by decide +kernel⟩) ⟨by decide, by decide⟩ (by show _ ≤ (2 : Nat); omega) (by show _ ≤ (12 : Nat); omega) rfl (by first | decide | exact Nat.le_of_ble_eq_true rfl) dL_measure_7 (fun E ce q9 H locs hp hW hS hce hcv hcl => ?_) (fun v ad7 ct7 H locs hp hW hS => ?_)
  · rcases hPX E hp with rfl | rfl
    · refine k_catch (own := "TailorBenchLaw") (E := eIdx) hown ht [] [(0, 12, 19, 13)] (0, 12, 15, 21) rfl (fun z hz => nomatch hz) (by decide) (by decide) (hq _ q501 rfl) (hq _ q302 rfl) hce hcv hcl ?_
      refine k_ast hx hb hL (i := 5) (by decide) dL_measure_15 (fun ls hL => ?_)
      refine lv_iconst (v := 1) hx hb dL_measure_17 (by decide) ?_
      rw [hQ]
      exact k_iret hx hb hr hlocks hW hS (by omega) (by omega) dL_measure_18 (Or.inr ⟨Or.inl ⟨hp, rfl⟩, rfl, rfl⟩)
    · refine k_catch (own := "TailorBenchLaw") (E := eArg) hown ht [(0, 12, 15, 21)] [] (0, 12, 19, 13) rfl (fun z hz => by
        simp only [List.mem_cons, List.not_mem_nil, or_false] at hz
        subst hz
        exact ⟨by decide, _, hq _ q501 rfl, va_Nc.moved hI.1.alike N3.2.1⟩) (by decide) (by decide) (hq _ q442 rfl) (hq _ q222 rfl) hce hcv hcl ?_
      refine k_ast hx hb hL (i := 5) (by decide) dL_measure_19 (fun ls hL => ?_)
      refine lv_iconst (v := 2) hx hb dL_measure_21 (by decide) ?_
      rw [hQ]
      exact k_iret hx hb hr hlocks hW hS (by omega) (by omega) dL_measure_22 (Or.inr ⟨Or.inr (⟨hp, rfl⟩), rfl, rfl⟩)
  obtain ⟨a, rfl⟩ := hRt _ _ _ hp
  obtain ⟨hO1, hO2⟩ := hO _ _ _ hp
  rw [← hO1]
  refine lv_i2l hx hb dL_measure_10 rfl ?_
  refine k_last hx hb hK hW hS hO2 (by omega) 0 (by omega) (by omega) rfl dL_measure_11 (fun H locs hW hS => ?_)
  refine lv_goto (tgt := 23) hx hb dL_measure_12 (by decide) ?_
  refine lv_iconst (v := 0) hx hb dL_measure_23 (by decide) ?_
  rw [hQ]
  exact k_iret hx hb hr hlocks hW hS (by omega) (by omega) dL_measure_24 (Or.inl ⟨a, _, hp, rfl, rfl⟩)

set_option maxHeartbeats 2000000 in
set_option maxRecDepth 100000 in
/-- TailorBenchLaw.style  -/
theorem w_style {l : Launch} {D : va_G} {cy : Nat → ClassId} {sad : Nat → Nat} {em : Nat} {s0 : State} {a0 : Array Value} (G : kG kSTR l D cy sad em s0 a0) {ad : Nat → Nat} {ct : Nat → Option va_E} (N3 : kN3 s0) {Post : kPT} {PX : String → Prop} (hM : KX l yX7_style [.code yX7_style prog_1_method_6_code 1 (some .int)] 6 90 2 12 [.ref (ad 1)] D s0 ad ct Post PX) (hPX : ∀ E, PX E → E = eSta) (hRt : ∀ v ad' ct', Post v ad' ct' → ∃ a : Int32, v = some (.int a)) {fo : Nat → Int64} (hO : ∀ v ad' ct', Post v ad' ct' → ad' 90 = ad 90 ∧ ct' 90 = some (.inl (cy 3, 1, aL fo))) {c1 : List Value} (h1c : ct 1 = some (.inr (9, c1))) :
    KM l yL_style [.codeWith yL_style method_7_code 3 (some .int) [(0, 8, 11, 15)]] 7 110 2 12 [.ref (ad 1), .ref (ad 90)] D s0 ad ct (fun v ad' ct' => (∃ (a : Int32) (ct1 : Nat → Option va_E), Post (some (.int a)) ad' ct1 ∧ v = some (.int 0) ∧ ct' = up ct1 90 (.inl (cy 3, 1, aL (vp_updL fo 0 a.toInt64)))) ∨ (((PX eSta ∧ v = some (.int 1))) ∧ ad' = ad ∧ ct' = ct)) := by
  refine KM.ofH G (by decide) (Nat.le_of_ble_eq_true rfl) (Nat.le_of_ble_eq_true rfl) ?_
  intro p e s m args below meth c ls Q hQ X ht hL hW hS
  obtain ⟨hx, hb, hr, hml, hown, hlocks, hts, hq, hK, hI⟩ := X
  replace hL := hL.nrm (l' := [some _, some _, none]) rfl
  refine lv_aload_n hx hb dL_style_0 rfl (hL.at 1 rfl) ?_
  refine lv_iconst (v := 0) hx hb dL_style_1 (by decide) ?_
  refine lv_aload_n hx hb dL_style_2 rfl (hL.at 0 rfl) ?_
  refine k_callVX (q := (RX7, TX7, 15)) hx hb hml hown hts hK hI hS hW hL.1 h1c rfl (hM) (m5 (gT_in q561 rfl) (gT_in q562 rfl) (gT_in q563 rfl) (gT_in q55 rfl) (gT_in q564 rfl)) rfl (show kpar yX7_style 0 from ⟨by decide, by decide, by decide +kernel⟩) ⟨by decide, by decide⟩ (by show _ ≤ (2 : Nat); omega) (by show _ ≤ (12 : Nat); omega) rfl (by first | decide | exact Nat.le_of_ble_eq_true rfl) dL_style_3 (fun E ce q9 H locs hp hW hS hce hcv hcl => ?_) (fun v ad3 ct3 H locs hp hW hS => ?_)
  · have hE9 := hPX E hp
    subst hE9
    refine k_catch (own := "TailorBenchLaw") (E := eSta) hown ht [] [] (0, 8, 11, 15) rfl (fun z hz => nomatch hz) (by decide) (by decide) (hq _ q443 rfl) (hq _ q451 rfl) hce hcv hcl ?_
    refine k_ast_n hx hb hL (i := 2) rfl (by decide) dL_style_11 (fun ls hL => ?_)
    refine lv_iconst (v := 1) hx hb dL_style_12 (by decide) ?_
    rw [hQ]
    exact k_iret hx hb hr hlocks hW hS (by omega) (by omega) dL_style_13 (Or.inr ⟨⟨hp, rfl⟩, rfl, rfl⟩)
  obtain ⟨a, rfl⟩ := hRt _ _ _ hp
  obtain ⟨hO1, hO2⟩ := hO _ _ _ hp
  rw [← hO1]
  refine lv_i2l hx hb dL_style_6 rfl ?_
  refine k_last hx hb hK hW hS hO2 (by omega) 0 (by omega) (by omega) rfl dL_style_7 (fun H locs hW hS => ?_)
  refine lv_goto (tgt := 14) hx hb dL_style_8 (by decide) ?_
  refine lv_iconst (v := 0) hx hb dL_style_14 (by decide) ?_
  rw [hQ]
  exact k_iret hx hb hr hlocks hW hS (by omega) (by omega) dL_style_15 (Or.inl ⟨a, _, hp, rfl, rfl⟩)

set_option maxHeartbeats 2000000 in
set_option maxRecDepth 100000 in
/-- TailorBenchLaw.piece  -/
theorem w_piece {l : Launch} {D : va_G} {cy : Nat → ClassId} {sad : Nat → Nat} {em : Nat} {s0 : State} {a0 : Array Value} (G : kG kSTR l D cy sad em s0 a0) {ad : Nat → Nat} {ct : Nat → Option va_E} (N3 : kN3 s0) {Post : kPT} {PX : String → Prop} {x1 : Int32} {x2 : Int32} {x3 : Int32} {x4 : Int32} {x5 : Int32} (hM : KX l yX7_piece [.code yX7_piece prog_1_method_7_code 7 (some .int)] 7 120 2 12 [.ref (ad 1), .int x1, .int x2, .int x3, .int x4, .int x5] D s0 ad ct Post PX) (hPX : ∀ E, PX E → E = eIdx ∨ E = eArg ∨ E = eSta) (hRt : ∀ v ad' ct', Post v ad' ct' → ∃ a : Int32, v = some (.int a)) {fo : Nat → Int64} (hO : ∀ v ad' ct', Post v ad' ct' → ad' 90 = ad 90 ∧ ct' 90 = some (.inl (cy 3, 1, aL fo))) {c1 : List Value} (h1c : ct 1 = some (.inr (9, c1))) :
    KM l yL_piece [.codeWith yL_piece method_8_code 8 (some .int) [(0, 16, 19, 21), (0, 16, 23, 13), (0, 16, 27, 15)]] 8 146 2 12 [.ref (ad 1), .int x1, .int x2, .int x3, .int x4, .int x5, .ref (ad 90)] D s0 ad ct (fun v ad' ct' => (∃ (a : Int32) (ct1 : Nat → Option va_E), Post (some (.int a)) ad' ct1 ∧ v = some (.int 0) ∧ ct' = up ct1 90 (.inl (cy 3, 1, aL (vp_updL fo 0 a.toInt64)))) ∨ (((PX eIdx ∧ v = some (.int 1)) ∨ (PX eArg ∧ v = some (.int 2)) ∨ (PX eSta ∧ v = some (.int 3))) ∧ ad' = ad ∧ ct' = ct)) := by
  refine KM.ofH G (by decide) (Nat.le_of_ble_eq_true rfl) (Nat.le_of_ble_eq_true rfl) ?_
  intro p e s m args below meth c ls Q hQ X ht hL hW hS
  obtain ⟨hx, hb, hr, hml, hown, hlocks, hts, hq, hK, hI⟩ := X
  replace hL := hL.nrm (l' := [some _, some _, some _, some _, some _, some _, some _, none]) rfl
  refine lv_aload hx hb dL_piece_0 (hL.at 6 rfl) ?_
  refine lv_iconst (v := 0) hx hb dL_piece_2 (by decide) ?_
  refine lv_aload_n hx hb dL_piece_3 rfl (hL.at 0 rfl) ?_
  refine lv_iload_n hx hb dL_piece_4 rfl (hL.at 1 rfl) ?_
  refine lv_iload_n hx hb dL_piece_5 rfl (hL.at 2 rfl) ?_
  refine lv_iload_n hx hb dL_piece_6 rfl (hL.at 3 rfl) ?_
  refine lv_iload hx hb dL_piece_7 (hL.at 4 rfl) ?_
  refine lv_iload hx hb dL_piece_9 (hL.at 5 rfl) ?_
  refine k_callVX (q := (RX7, TX7, 15)) hx hb hml hown hts hK hI hS hW hL.1 h1c rfl (hM) (m5 (gT_in q598 rfl) (gT_in q599 rfl) (gT_in q600 rfl) (gT_in q55 rfl) (gT_in q601 rfl)) rfl (show kpar yX7_piece 5 from ⟨by decide, by decide, by decide +kernel⟩) ⟨by decide, by decide⟩ (by show _ ≤ (2 : Nat); omega) (by show _ ≤ (12 : Nat); omega) rfl (by first | decide | exact Nat.le_of_ble_eq_true rfl) dL_piece_11 (fun E ce q9 H locs hp hW hS hce hcv hcl => ?_) (fun v ad11 ct11 H locs hp hW hS => ?_)
  · rcases hPX E hp with rfl | rfl | rfl
    · refine k_catch (own := "TailorBenchLaw") (E := eIdx) hown ht [] [(0, 16, 23, 13), (0, 16, 27, 15)] (0, 16, 19, 21) rfl (fun z hz => nomatch hz) (by decide) (by decide) (hq _ q501 rfl) (hq _ q302 rfl) hce hcv hcl ?_
      refine k_ast hx hb hL (i := 7) (by decide) dL_piece_19 (fun ls hL => ?_)
      refine lv_iconst (v := 1) hx hb dL_piece_21 (by decide) ?_
      rw [hQ]
      exact k_iret hx hb hr hlocks hW hS (by omega) (by omega) dL_piece_22 (Or.inr ⟨Or.inl ⟨hp, rfl⟩, rfl, rfl⟩)
    · refine k_catch (own := "TailorBenchLaw") (E := eArg) hown ht [(0, 16, 19, 21)] [(0, 16, 27, 15)] (0, 16, 23, 13) rfl (fun z hz => by
        simp only [List.mem_cons, List.not_mem_nil, or_false] at hz
        subst hz
        exact ⟨by decide, _, hq _ q501 rfl, va_Nc.moved hI.1.alike N3.2.1⟩) (by decide) (by decide) (hq _ q442 rfl) (hq _ q222 rfl) hce hcv hcl ?_
      refine k_ast hx hb hL (i := 7) (by decide) dL_piece_23 (fun ls hL => ?_)
      refine lv_iconst (v := 2) hx hb dL_piece_25 (by decide) ?_
      rw [hQ]
      exact k_iret hx hb hr hlocks hW hS (by omega) (by omega) dL_piece_26 (Or.inr ⟨Or.inr (Or.inl ⟨hp, rfl⟩), rfl, rfl⟩)
    · refine k_catch (own := "TailorBenchLaw") (E := eSta) hown ht [(0, 16, 19, 21), (0, 16, 23, 13)] [] (0, 16, 27, 15) rfl (fun z hz => by
        simp only [List.mem_cons, List.not_mem_nil, or_false] at hz
        rcases hz with rfl | rfl
        · exact ⟨by decide, _, hq _ q501 rfl, va_Nc.moved hI.1.alike N3.2.2⟩
        · exact ⟨by decide, _, hq _ q442 rfl, va_Nc.moved hI.1.alike N3.1⟩) (by decide) (by decide) (hq _ q443 rfl) (hq _ q451 rfl) hce hcv hcl ?_
      refine k_ast hx hb hL (i := 7) (by decide) dL_piece_27 (fun ls hL => ?_)
      refine lv_iconst (v := 3) hx hb dL_piece_29 (by decide) ?_
      rw [hQ]
      exact k_iret hx hb hr hlocks hW hS (by omega) (by omega) dL_piece_30 (Or.inr ⟨Or.inr (Or.inr (⟨hp, rfl⟩)), rfl, rfl⟩)
  obtain ⟨a, rfl⟩ := hRt _ _ _ hp
  obtain ⟨hO1, hO2⟩ := hO _ _ _ hp
  rw [← hO1]
  refine lv_i2l hx hb dL_piece_14 rfl ?_
  refine k_last hx hb hK hW hS hO2 (by omega) 0 (by omega) (by omega) rfl dL_piece_15 (fun H locs hW hS => ?_)
  refine lv_goto (tgt := 31) hx hb dL_piece_16 (by decide) ?_
  refine lv_iconst (v := 0) hx hb dL_piece_31 (by decide) ?_
  rw [hQ]
  exact k_iret hx hb hr hlocks hW hS (by omega) (by omega) dL_piece_32 (Or.inl ⟨a, _, hp, rfl, rfl⟩)

set_option maxHeartbeats 2000000 in
set_option maxRecDepth 100000 in
/-- TailorBenchLaw.hand  -/
theorem w_hand {l : Launch} {D : va_G} {cy : Nat → ClassId} {sad : Nat → Nat} {em : Nat} {s0 : State} {a0 : Array Value} (G : kG kSTR l D cy sad em s0 a0) {ad : Nat → Nat} {ct : Nat → Option va_E} (N3 : kN3 s0) {Post : kPT} {PX : String → Prop} {x1 : Int32} (hM : KX l yX7_hand [.code yX7_hand prog_1_method_8_code 2 (some .int)] 6 90 2 12 [.ref (ad 1), .int x1] D s0 ad ct Post PX) (hPX : ∀ E, PX E → E = eArg ∨ E = eSta) (hRt : ∀ v ad' ct', Post v ad' ct' → ∃ a : Int32, v = some (.int a)) {fo : Nat → Int64} (hO : ∀ v ad' ct', Post v ad' ct' → ad' 90 = ad 90 ∧ ct' 90 = some (.inl (cy 3, 1, aL fo))) {c1 : List Value} (h1c : ct 1 = some (.inr (9, c1))) :
    KM l yL_hand [.codeWith yL_hand method_9_code 4 (some .int) [(0, 9, 12, 13), (0, 9, 15, 15)]] 7 111 2 12 [.ref (ad 1), .int x1, .ref (ad 90)] D s0 ad ct (fun v ad' ct' => (∃ (a : Int32) (ct1 : Nat → Option va_E), Post (some (.int a)) ad' ct1 ∧ v = some (.int 0) ∧ ct' = up ct1 90 (.inl (cy 3, 1, aL (vp_updL fo 0 a.toInt64)))) ∨ (((PX eArg ∧ v = some (.int 1)) ∨ (PX eSta ∧ v = some (.int 2))) ∧ ad' = ad ∧ ct' = ct)) := by
  refine KM.ofH G (by decide) (Nat.le_of_ble_eq_true rfl) (Nat.le_of_ble_eq_true rfl) ?_
  intro p e s m args below meth c ls Q hQ X ht hL hW hS
  obtain ⟨hx, hb, hr, hml, hown, hlocks, hts, hq, hK, hI⟩ := X
  replace hL := hL.nrm (l' := [some _, some _, some _, none]) rfl
  refine lv_aload_n hx hb dL_hand_0 rfl (hL.at 2 rfl) ?_
  refine lv_iconst (v := 0) hx hb dL_hand_1 (by decide) ?_
  refine lv_aload_n hx hb dL_hand_2 rfl (hL.at 0 rfl) ?_
  refine lv_iload_n hx hb dL_hand_3 rfl (hL.at 1 rfl) ?_
  refine k_callVX (q := (RX7, TX7, 15)) hx hb hml hown hts hK hI hS hW hL.1 h1c rfl (hM) (m5 (gT_in q635 rfl) (gT_in q636 rfl) (gT_in q637 rfl) (gT_in q55 rfl) (gT_in q638 rfl)) rfl (show kpar yX7_hand 1 from ⟨by decide, by decide, by decide +kernel⟩) ⟨by decide, by decide⟩ (by show _ ≤ (2 : Nat); omega) (by show _ ≤ (12 : Nat); omega) rfl (by first | decide | exact Nat.le_of_ble_eq_true rfl) dL_hand_4 (fun E ce q9 H locs hp hW hS hce hcv hcl => ?_) (fun v ad4 ct4 H locs hp hW hS => ?_)
  · rcases hPX E hp with rfl | rfl
    · refine k_catch (own := "TailorBenchLaw") (E := eArg) hown ht [] [(0, 9, 15, 15)] (0, 9, 12, 13) rfl (fun z hz => nomatch hz) (by decide) (by decide) (hq _ q442 rfl) (hq _ q222 rfl) hce hcv hcl ?_
      refine k_ast_n hx hb hL (i := 3) rfl (by decide) dL_hand_12 (fun ls hL => ?_)
      refine lv_iconst (v := 1) hx hb dL_hand_13 (by decide) ?_
      rw [hQ]
      exact k_iret hx hb hr hlocks hW hS (by omega) (by omega) dL_hand_14 (Or.inr ⟨Or.inl ⟨hp, rfl⟩, rfl, rfl⟩)
    · refine k_catch (own := "TailorBenchLaw") (E := eSta) hown ht [(0, 9, 12, 13)] [] (0, 9, 15, 15) rfl (fun z hz => by
        simp only [List.mem_cons, List.not_mem_nil, or_false] at hz
        subst hz
        exact ⟨by decide, _, hq _ q442 rfl, va_Nc.moved hI.1.alike N3.1⟩) (by decide) (by decide) (hq _ q443 rfl) (hq _ q451 rfl) hce hcv hcl ?_
      refine k_ast_n hx hb hL (i := 3) rfl (by decide) dL_hand_15 (fun ls hL => ?_)
      refine lv_iconst (v := 2) hx hb dL_hand_16 (by decide) ?_
      rw [hQ]
      exact k_iret hx hb hr hlocks hW hS (by omega) (by omega) dL_hand_17 (Or.inr ⟨Or.inr (⟨hp, rfl⟩), rfl, rfl⟩)
  obtain ⟨a, rfl⟩ := hRt _ _ _ hp
  obtain ⟨hO1, hO2⟩ := hO _ _ _ hp
  rw [← hO1]
  refine lv_i2l hx hb dL_hand_7 rfl ?_
  refine k_last hx hb hK hW hS hO2 (by omega) 0 (by omega) (by omega) rfl dL_hand_8 (fun H locs hW hS => ?_)
  refine lv_goto (tgt := 18) hx hb dL_hand_9 (by decide) ?_
  refine lv_iconst (v := 0) hx hb dL_hand_18 (by decide) ?_
  rw [hQ]
  exact k_iret hx hb hr hlocks hW hS (by omega) (by omega) dL_hand_19 (Or.inl ⟨a, _, hp, rfl, rfl⟩)

set_option maxHeartbeats 2000000 in
set_option maxRecDepth 100000 in
/-- TailorBenchLaw.order  -/
theorem w_order {l : Launch} {D : va_G} {cy : Nat → ClassId} {sad : Nat → Nat} {em : Nat} {s0 : State} {a0 : Array Value} (G : kG kSTR l D cy sad em s0 a0) {ad : Nat → Nat} {ct : Nat → Option va_E} (N3 : kN3 s0) {Post : kPT} {PX : String → Prop} {x1 : Int32} {x2 : Int32} {x3 : Int32} (hM : KX l yX7_order [.code yX7_order prog_1_method_9_code 6 (some .int)] 7 120 4 27 [.ref (ad 1), .int x1, .int x2, .int x3] D s0 ad ct Post PX) (hPX : ∀ E, PX E → E = eIdx ∨ E = eArg ∨ E = eSta) (hRt : ∀ v ad' ct', Post v ad' ct' → ∃ a : Int32, v = some (.int a)) {fo : Nat → Int64} (hO : ∀ v ad' ct', Post v ad' ct' → ad' 90 = ad 90 ∧ ct' 90 = some (.inl (cy 3, 1, aL fo))) {c1 : List Value} (h1c : ct 1 = some (.inr (9, c1))) :
    KM l yL_order [.codeWith yL_order method_10_code 6 (some .int) [(0, 12, 15, 21), (0, 12, 19, 13), (0, 12, 23, 15)]] 8 145 4 27 [.ref (ad 1), .int x1, .int x2, .int x3, .ref (ad 90)] D s0 ad ct (fun v ad' ct' => (∃ (a : Int32) (ct1 : Nat → Option va_E), Post (some (.int a)) ad' ct1 ∧ v = some (.int 0) ∧ ct' = up ct1 90 (.inl (cy 3, 1, aL (vp_updL fo 0 a.toInt64)))) ∨ (((PX eIdx ∧ v = some (.int 1)) ∨ (PX eArg ∧ v = some (.int 2)) ∨ (PX eSta ∧ v = some (.int 3))) ∧ ad' = ad ∧ ct' = ct)) := by
  refine KM.ofH G (by decide) (Nat.le_of_ble_eq_true rfl) (Nat.le_of_ble_eq_true rfl) ?_
  intro p e s m args below meth c ls Q hQ X ht hL hW hS
  obtain ⟨hx, hb, hr, hml, hown, hlocks, hts, hq, hK, hI⟩ := X
  replace hL := hL.nrm (l' := [some _, some _, some _, some _, some _, none]) rfl
  refine lv_aload hx hb dL_order_0 (hL.at 4 rfl) ?_
  refine lv_iconst (v := 0) hx hb dL_order_2 (by decide) ?_
  refine lv_aload_n hx hb dL_order_3 rfl (hL.at 0 rfl) ?_
  refine lv_iload_n hx hb dL_order_4 rfl (hL.at 1 rfl) ?_
  refine lv_iload_n hx hb dL_order_5 rfl (hL.at 2 rfl) ?_
  refine lv_iload_n hx hb dL_order_6 rfl (hL.at 3 rfl) ?_
  refine k_callVX (q := (RX7, TX7, 15)) hx hb hml hown hts hK hI hS hW hL.1 h1c rfl (hM) (m5 (gT_in q658 rfl) (gT_in q659 rfl) (gT_in q660 rfl) (gT_in q55 rfl) (gT_in q661 rfl)) rfl (show kpar yX7_order 3 from ⟨by decide, by decide, by decide +kernel⟩) ⟨by decide, by decide⟩ (by show _ ≤ (4 : Nat); omega) (by show _ ≤ (27 : Nat); omega) rfl (by first | decide | exact Nat.le_of_ble_eq_true rfl) dL_order_7 (fun E ce q9 H locs hp hW hS hce hcv hcl => ?_) (fun v ad7 ct7 H locs hp hW hS => ?_)
  · rcases hPX E hp with rfl | rfl | rfl
    · refine k_catch (own := "TailorBenchLaw") (E := eIdx) hown ht [] [(0, 12, 19, 13), (0, 12, 23, 15)] (0, 12, 15, 21) rfl (fun z hz => nomatch hz) (by decide) (by decide) (hq _ q501 rfl) (hq _ q302 rfl) hce hcv hcl ?_
      refine k_ast hx hb hL (i := 5) (by decide) dL_order_15 (fun ls hL => ?_)
      refine lv_iconst (v := 1) hx hb dL_order_17 (by decide) ?_
      rw [hQ]
      exact k_iret hx hb hr hlocks hW hS (by omega) (by omega) dL_order_18 (Or.inr ⟨Or.inl ⟨hp, rfl⟩, rfl, rfl⟩)
    · refine k_catch (own := "TailorBenchLaw") (E := eArg) hown ht [(0, 12, 15, 21)] [(0, 12, 23, 15)] (0, 12, 19, 13) rfl (fun z hz => by
        simp only [List.mem_cons, List.not_mem_nil, or_false] at hz
        subst hz
        exact ⟨by decide, _, hq _ q501 rfl, va_Nc.moved hI.1.alike N3.2.1⟩) (by decide) (by decide) (hq _ q442 rfl) (hq _ q222 rfl) hce hcv hcl ?_
      refine k_ast hx hb hL (i := 5) (by decide) dL_order_19 (fun ls hL => ?_)
      refine lv_iconst (v := 2) hx hb dL_order_21 (by decide) ?_
      rw [hQ]
      exact k_iret hx hb hr hlocks hW hS (by omega) (by omega) dL_order_22 (Or.inr ⟨Or.inr (Or.inl ⟨hp, rfl⟩), rfl, rfl⟩)
    · refine k_catch (own := "TailorBenchLaw") (E := eSta) hown ht [(0, 12, 15, 21), (0, 12, 19, 13)] [] (0, 12, 23, 15) rfl (fun z hz => by
        simp only [List.mem_cons, List.not_mem_nil, or_false] at hz
        rcases hz with rfl | rfl
        · exact ⟨by decide, _, hq _ q501 rfl, va_Nc.moved hI.1.alike N3.2.2⟩
        · exact ⟨by decide, _, hq _ q442 rfl, va_Nc.moved hI.1.alike N3.1⟩) (by decide) (by decide) (hq _ q443 rfl) (hq _ q451 rfl) hce hcv hcl ?_
      refine k_ast hx hb hL (i := 5) (by decide) dL_order_23 (fun ls hL => ?_)
      refine lv_iconst (v := 3) hx hb dL_order_25 (by decide) ?_
      rw [hQ]
      exact k_iret hx hb hr hlocks hW hS (by omega) (by omega) dL_order_26 (Or.inr ⟨Or.inr (Or.inr (⟨hp, rfl⟩)), rfl, rfl⟩)
  obtain ⟨a, rfl⟩ := hRt _ _ _ hp
  obtain ⟨hO1, hO2⟩ := hO _ _ _ hp
  rw [← hO1]
  refine lv_i2l hx hb dL_order_10 rfl ?_
  refine k_last hx hb hK hW hS hO2 (by omega) 0 (by omega) (by omega) rfl dL_order_11 (fun H locs hW hS => ?_)
  refine lv_goto (tgt := 27) hx hb dL_order_12 (by decide) ?_
  refine lv_iconst (v := 0) hx hb dL_order_27 (by decide) ?_
  rw [hQ]
  exact k_iret hx hb hr hlocks hW hS (by omega) (by omega) dL_order_28 (Or.inl ⟨a, _, hp, rfl, rfl⟩)

set_option maxHeartbeats 2000000 in
set_option maxRecDepth 100000 in
/-- TailorBenchLaw.cut  -/
theorem w_cut {l : Launch} {D : va_G} {cy : Nat → ClassId} {sad : Nat → Nat} {em : Nat} {s0 : State} {a0 : Array Value} (G : kG kSTR l D cy sad em s0 a0) {ad : Nat → Nat} {ct : Nat → Option va_E} (N3 : kN3 s0) {Post : kPT} {PX : String → Prop} {x1 : Int32} {x2 : Int32} {x3 : Int32} (hM : KX l yX7_cut [.code yX7_cut prog_1_method_10_code 10 (some .double)] 8 150 5 30 [.ref (ad 1), .int x1, .int x2, .int x3] D s0 ad ct Post PX) (hPX : ∀ E, PX E → E = eIdx ∨ E = eArg ∨ E = eSta) (hRt : ∀ v ad' ct', Post v ad' ct' → ∃ a : UInt64, v = some (.double a)) {fo : Nat → UInt64} (hO : ∀ v ad' ct', Post v ad' ct' → ad' 91 = ad 91 ∧ ct' 91 = some (.inl (cy 0, 1, aD fo))) {c1 : List Value} (h1c : ct 1 = some (.inr (9, c1))) :
    KM l yL_cut [.codeWith yL_cut method_11_code 6 (some .int) [(0, 11, 14, 21), (0, 11, 18, 13), (0, 11, 22, 15)]] 9 179 5 30 [.ref (ad 1), .int x1, .int x2, .int x3, .ref (ad 91)] D s0 ad ct (fun v ad' ct' => (∃ (a : UInt64) (ct1 : Nat → Option va_E), Post (some (.double a)) ad' ct1 ∧ v = some (.int 0) ∧ ct' = up ct1 91 (.inl (cy 0, 1, aD (vf_upd fo 0 a)))) ∨ (((PX eIdx ∧ v = some (.int 1)) ∨ (PX eArg ∧ v = some (.int 2)) ∨ (PX eSta ∧ v = some (.int 3))) ∧ ad' = ad ∧ ct' = ct)) := by
  refine KM.ofH G (by decide) (Nat.le_of_ble_eq_true rfl) (Nat.le_of_ble_eq_true rfl) ?_
  intro p e s m args below meth c ls Q hQ X ht hL hW hS
  obtain ⟨hx, hb, hr, hml, hown, hlocks, hts, hq, hK, hI⟩ := X
  replace hL := hL.nrm (l' := [some _, some _, some _, some _, some _, none]) rfl
  refine lv_aload hx hb dL_cut_0 (hL.at 4 rfl) ?_
  refine lv_iconst (v := 0) hx hb dL_cut_2 (by decide) ?_
  refine lv_aload_n hx hb dL_cut_3 rfl (hL.at 0 rfl) ?_
  refine lv_iload_n hx hb dL_cut_4 rfl (hL.at 1 rfl) ?_
  refine lv_iload_n hx hb dL_cut_5 rfl (hL.at 2 rfl) ?_
  refine lv_iload_n hx hb dL_cut_6 rfl (hL.at 3 rfl) ?_
  refine k_callVX (q := (RX7, TX7, 15)) hx hb hml hown hts hK hI hS hW hL.1 h1c rfl (hM) (m5 (gT_in q714 rfl) (gT_in q715 rfl) (gT_in q716 rfl) (gT_in q55 rfl) (gT_in q717 rfl)) rfl (show kpar yX7_cut 3 from ⟨by decide, by decide, by decide +kernel⟩) ⟨by decide, by decide⟩ (by show _ ≤ (5 : Nat); omega) (by show _ ≤ (30 : Nat); omega) rfl (by first | decide | exact Nat.le_of_ble_eq_true rfl) dL_cut_7 (fun E ce q9 H locs hp hW hS hce hcv hcl => ?_) (fun v ad7 ct7 H locs hp hW hS => ?_)
  · rcases hPX E hp with rfl | rfl | rfl
    · refine k_catch (own := "TailorBenchLaw") (E := eIdx) hown ht [] [(0, 11, 18, 13), (0, 11, 22, 15)] (0, 11, 14, 21) rfl (fun z hz => nomatch hz) (by decide) (by decide) (hq _ q501 rfl) (hq _ q302 rfl) hce hcv hcl ?_
      refine k_ast hx hb hL (i := 5) (by decide) dL_cut_14 (fun ls hL => ?_)
      refine lv_iconst (v := 1) hx hb dL_cut_16 (by decide) ?_
      rw [hQ]
      exact k_iret hx hb hr hlocks hW hS (by omega) (by omega) dL_cut_17 (Or.inr ⟨Or.inl ⟨hp, rfl⟩, rfl, rfl⟩)
    · refine k_catch (own := "TailorBenchLaw") (E := eArg) hown ht [(0, 11, 14, 21)] [(0, 11, 22, 15)] (0, 11, 18, 13) rfl (fun z hz => by
        simp only [List.mem_cons, List.not_mem_nil, or_false] at hz
        subst hz
        exact ⟨by decide, _, hq _ q501 rfl, va_Nc.moved hI.1.alike N3.2.1⟩) (by decide) (by decide) (hq _ q442 rfl) (hq _ q222 rfl) hce hcv hcl ?_
      refine k_ast hx hb hL (i := 5) (by decide) dL_cut_18 (fun ls hL => ?_)
      refine lv_iconst (v := 2) hx hb dL_cut_20 (by decide) ?_
      rw [hQ]
      exact k_iret hx hb hr hlocks hW hS (by omega) (by omega) dL_cut_21 (Or.inr ⟨Or.inr (Or.inl ⟨hp, rfl⟩), rfl, rfl⟩)
    · refine k_catch (own := "TailorBenchLaw") (E := eSta) hown ht [(0, 11, 14, 21), (0, 11, 18, 13)] [] (0, 11, 22, 15) rfl (fun z hz => by
        simp only [List.mem_cons, List.not_mem_nil, or_false] at hz
        rcases hz with rfl | rfl
        · exact ⟨by decide, _, hq _ q501 rfl, va_Nc.moved hI.1.alike N3.2.2⟩
        · exact ⟨by decide, _, hq _ q442 rfl, va_Nc.moved hI.1.alike N3.1⟩) (by decide) (by decide) (hq _ q443 rfl) (hq _ q451 rfl) hce hcv hcl ?_
      refine k_ast hx hb hL (i := 5) (by decide) dL_cut_22 (fun ls hL => ?_)
      refine lv_iconst (v := 3) hx hb dL_cut_24 (by decide) ?_
      rw [hQ]
      exact k_iret hx hb hr hlocks hW hS (by omega) (by omega) dL_cut_25 (Or.inr ⟨Or.inr (Or.inr (⟨hp, rfl⟩)), rfl, rfl⟩)
  obtain ⟨a, rfl⟩ := hRt _ _ _ hp
  obtain ⟨hO1, hO2⟩ := hO _ _ _ hp
  rw [← hO1]
  refine k_dast hx hb hK hW hS hO2 (by omega) 0 (by omega) (by omega) rfl dL_cut_10 (fun H locs hW hS => ?_)
  refine lv_goto (tgt := 26) hx hb dL_cut_11 (by decide) ?_
  refine lv_iconst (v := 0) hx hb dL_cut_26 (by decide) ?_
  rw [hQ]
  exact k_iret hx hb hr hlocks hW hS (by omega) (by omega) dL_cut_27 (Or.inl ⟨a, _, hp, rfl, rfl⟩)

set_option maxHeartbeats 2000000 in
set_option maxRecDepth 100000 in
/-- TailorBenchLaw.sew  -/
theorem w_sew {l : Launch} {D : va_G} {cy : Nat → ClassId} {sad : Nat → Nat} {em : Nat} {s0 : State} {a0 : Array Value} (G : kG kSTR l D cy sad em s0 a0) {ad : Nat → Nat} {ct : Nat → Option va_E} (N3 : kN3 s0) {Post : kPT} {PX : String → Prop} {x1 : Int32} {x2 : Int32} (hM : KX l yX7_sew [.code yX7_sew prog_1_method_11_code 5 (some .double)] 7 120 3 18 [.ref (ad 1), .int x1, .int x2] D s0 ad ct Post PX) (hPX : ∀ E, PX E → E = eIdx ∨ E = eSta) (hRt : ∀ v ad' ct', Post v ad' ct' → ∃ a : UInt64, v = some (.double a)) {fo : Nat → UInt64} (hO : ∀ v ad' ct', Post v ad' ct' → ad' 91 = ad 91 ∧ ct' 91 = some (.inl (cy 0, 1, aD fo))) {c1 : List Value} (h1c : ct 1 = some (.inr (9, c1))) :
    KM l yL_sew [.codeWith yL_sew method_12_code 5 (some .int) [(0, 9, 12, 21), (0, 9, 16, 15)]] 8 144 3 18 [.ref (ad 1), .int x1, .int x2, .ref (ad 91)] D s0 ad ct (fun v ad' ct' => (∃ (a : UInt64) (ct1 : Nat → Option va_E), Post (some (.double a)) ad' ct1 ∧ v = some (.int 0) ∧ ct' = up ct1 91 (.inl (cy 0, 1, aD (vf_upd fo 0 a)))) ∨ (((PX eIdx ∧ v = some (.int 1)) ∨ (PX eSta ∧ v = some (.int 2))) ∧ ad' = ad ∧ ct' = ct)) := by
  refine KM.ofH G (by decide) (Nat.le_of_ble_eq_true rfl) (Nat.le_of_ble_eq_true rfl) ?_
  intro p e s m args below meth c ls Q hQ X ht hL hW hS
  obtain ⟨hx, hb, hr, hml, hown, hlocks, hts, hq, hK, hI⟩ := X
  replace hL := hL.nrm (l' := [some _, some _, some _, some _, none]) rfl
  refine lv_aload_n hx hb dL_sew_0 rfl (hL.at 3 rfl) ?_
  refine lv_iconst (v := 0) hx hb dL_sew_1 (by decide) ?_
  refine lv_aload_n hx hb dL_sew_2 rfl (hL.at 0 rfl) ?_
  refine lv_iload_n hx hb dL_sew_3 rfl (hL.at 1 rfl) ?_
  refine lv_iload_n hx hb dL_sew_4 rfl (hL.at 2 rfl) ?_
  refine k_callVX (q := (RX7, TX7, 15)) hx hb hml hown hts hK hI hS hW hL.1 h1c rfl (hM) (m5 (gT_in q741 rfl) (gT_in q742 rfl) (gT_in q743 rfl) (gT_in q55 rfl) (gT_in q744 rfl)) rfl (show kpar yX7_sew 2 from ⟨by decide, by decide, by decide +kernel⟩) ⟨by decide, by decide⟩ (by show _ ≤ (3 : Nat); omega) (by show _ ≤ (18 : Nat); omega) rfl (by first | decide | exact Nat.le_of_ble_eq_true rfl) dL_sew_5 (fun E ce q9 H locs hp hW hS hce hcv hcl => ?_) (fun v ad5 ct5 H locs hp hW hS => ?_)
  · rcases hPX E hp with rfl | rfl
    · refine k_catch (own := "TailorBenchLaw") (E := eIdx) hown ht [] [(0, 9, 16, 15)] (0, 9, 12, 21) rfl (fun z hz => nomatch hz) (by decide) (by decide) (hq _ q501 rfl) (hq _ q302 rfl) hce hcv hcl ?_
      refine k_ast hx hb hL (i := 4) (by decide) dL_sew_12 (fun ls hL => ?_)
      refine lv_iconst (v := 1) hx hb dL_sew_14 (by decide) ?_
      rw [hQ]
      exact k_iret hx hb hr hlocks hW hS (by omega) (by omega) dL_sew_15 (Or.inr ⟨Or.inl ⟨hp, rfl⟩, rfl, rfl⟩)
    · refine k_catch (own := "TailorBenchLaw") (E := eSta) hown ht [(0, 9, 12, 21)] [] (0, 9, 16, 15) rfl (fun z hz => by
        simp only [List.mem_cons, List.not_mem_nil, or_false] at hz
        subst hz
        exact ⟨by decide, _, hq _ q501 rfl, va_Nc.moved hI.1.alike N3.2.2⟩) (by decide) (by decide) (hq _ q443 rfl) (hq _ q451 rfl) hce hcv hcl ?_
      refine k_ast hx hb hL (i := 4) (by decide) dL_sew_16 (fun ls hL => ?_)
      refine lv_iconst (v := 2) hx hb dL_sew_18 (by decide) ?_
      rw [hQ]
      exact k_iret hx hb hr hlocks hW hS (by omega) (by omega) dL_sew_19 (Or.inr ⟨Or.inr (⟨hp, rfl⟩), rfl, rfl⟩)
  obtain ⟨a, rfl⟩ := hRt _ _ _ hp
  obtain ⟨hO1, hO2⟩ := hO _ _ _ hp
  rw [← hO1]
  refine k_dast hx hb hK hW hS hO2 (by omega) 0 (by omega) (by omega) rfl dL_sew_8 (fun H locs hW hS => ?_)
  refine lv_goto (tgt := 20) hx hb dL_sew_9 (by decide) ?_
  refine lv_iconst (v := 0) hx hb dL_sew_20 (by decide) ?_
  rw [hQ]
  exact k_iret hx hb hr hlocks hW hS (by omega) (by omega) dL_sew_21 (Or.inl ⟨a, _, hp, rfl, rfl⟩)

set_option maxHeartbeats 2000000 in
set_option maxRecDepth 100000 in
/-- TailorBenchLaw.fit  -/
theorem w_fit {l : Launch} {D : va_G} {cy : Nat → ClassId} {sad : Nat → Nat} {em : Nat} {s0 : State} {a0 : Array Value} (G : kG kSTR l D cy sad em s0 a0) {ad : Nat → Nat} {ct : Nat → Option va_E} (N3 : kN3 s0) {Post : kPT} {PX : String → Prop} {x1 : Int32} (hM : KX l yX7_fit [.code yX7_fit prog_1_method_12_code 4 (some .int)] 7 120 2 12 [.ref (ad 1), .int x1] D s0 ad ct Post PX) (hPX : ∀ E, PX E → E = eIdx ∨ E = eSta) (hRt : ∀ v ad' ct', Post v ad' ct' → ∃ a : Int32, v = some (.int a)) {fo : Nat → Int64} (hO : ∀ v ad' ct', Post v ad' ct' → ad' 90 = ad 90 ∧ ct' 90 = some (.inl (cy 3, 1, aL fo))) {c1 : List Value} (h1c : ct 1 = some (.inr (9, c1))) :
    KM l yL_fit [.codeWith yL_fit method_13_code 4 (some .int) [(0, 9, 12, 21), (0, 9, 15, 15)]] 8 143 2 12 [.ref (ad 1), .int x1, .ref (ad 90)] D s0 ad ct (fun v ad' ct' => (∃ (a : Int32) (ct1 : Nat → Option va_E), Post (some (.int a)) ad' ct1 ∧ v = some (.int 0) ∧ ct' = up ct1 90 (.inl (cy 3, 1, aL (vp_updL fo 0 a.toInt64)))) ∨ (((PX eIdx ∧ v = some (.int 1)) ∨ (PX eSta ∧ v = some (.int 2))) ∧ ad' = ad ∧ ct' = ct)) := by
  refine KM.ofH G (by decide) (Nat.le_of_ble_eq_true rfl) (Nat.le_of_ble_eq_true rfl) ?_
  intro p e s m args below meth c ls Q hQ X ht hL hW hS
  obtain ⟨hx, hb, hr, hml, hown, hlocks, hts, hq, hK, hI⟩ := X
  replace hL := hL.nrm (l' := [some _, some _, some _, none]) rfl
  refine lv_aload_n hx hb dL_fit_0 rfl (hL.at 2 rfl) ?_
  refine lv_iconst (v := 0) hx hb dL_fit_1 (by decide) ?_
  refine lv_aload_n hx hb dL_fit_2 rfl (hL.at 0 rfl) ?_
  refine lv_iload_n hx hb dL_fit_3 rfl (hL.at 1 rfl) ?_
  refine k_callVX (q := (RX7, TX7, 15)) hx hb hml hown hts hK hI hS hW hL.1 h1c rfl (hM) (m5 (gT_in q749 rfl) (gT_in q750 rfl) (gT_in q751 rfl) (gT_in q55 rfl) (gT_in q752 rfl)) rfl (show kpar yX7_fit 1 from ⟨by decide, by decide, by decide +kernel⟩) ⟨by decide, by decide⟩ (by show _ ≤ (2 : Nat); omega) (by show _ ≤ (12 : Nat); omega) rfl (by first | decide | exact Nat.le_of_ble_eq_true rfl) dL_fit_4 (fun E ce q9 H locs hp hW hS hce hcv hcl => ?_) (fun v ad4 ct4 H locs hp hW hS => ?_)
  · rcases hPX E hp with rfl | rfl
    · refine k_catch (own := "TailorBenchLaw") (E := eIdx) hown ht [] [(0, 9, 15, 15)] (0, 9, 12, 21) rfl (fun z hz => nomatch hz) (by decide) (by decide) (hq _ q501 rfl) (hq _ q302 rfl) hce hcv hcl ?_
      refine k_ast_n hx hb hL (i := 3) rfl (by decide) dL_fit_12 (fun ls hL => ?_)
      refine lv_iconst (v := 1) hx hb dL_fit_13 (by decide) ?_
      rw [hQ]
      exact k_iret hx hb hr hlocks hW hS (by omega) (by omega) dL_fit_14 (Or.inr ⟨Or.inl ⟨hp, rfl⟩, rfl, rfl⟩)
    · refine k_catch (own := "TailorBenchLaw") (E := eSta) hown ht [(0, 9, 12, 21)] [] (0, 9, 15, 15) rfl (fun z hz => by
        simp only [List.mem_cons, List.not_mem_nil, or_false] at hz
        subst hz
        exact ⟨by decide, _, hq _ q501 rfl, va_Nc.moved hI.1.alike N3.2.2⟩) (by decide) (by decide) (hq _ q443 rfl) (hq _ q451 rfl) hce hcv hcl ?_
      refine k_ast_n hx hb hL (i := 3) rfl (by decide) dL_fit_15 (fun ls hL => ?_)
      refine lv_iconst (v := 2) hx hb dL_fit_16 (by decide) ?_
      rw [hQ]
      exact k_iret hx hb hr hlocks hW hS (by omega) (by omega) dL_fit_17 (Or.inr ⟨Or.inr (⟨hp, rfl⟩), rfl, rfl⟩)
  obtain ⟨a, rfl⟩ := hRt _ _ _ hp
  obtain ⟨hO1, hO2⟩ := hO _ _ _ hp
  rw [← hO1]
  refine lv_i2l hx hb dL_fit_7 rfl ?_
  refine k_last hx hb hK hW hS hO2 (by omega) 0 (by omega) (by omega) rfl dL_fit_8 (fun H locs hW hS => ?_)
  refine lv_goto (tgt := 18) hx hb dL_fit_9 (by decide) ?_
  refine lv_iconst (v := 0) hx hb dL_fit_18 (by decide) ?_
  rw [hQ]
  exact k_iret hx hb hr hlocks hW hS (by omega) (by omega) dL_fit_19 (Or.inl ⟨a, _, hp, rfl, rfl⟩)

set_option maxHeartbeats 2000000 in
set_option maxRecDepth 100000 in
/-- TailorBenchLaw.give  -/
theorem w_give {l : Launch} {D : va_G} {cy : Nat → ClassId} {sad : Nat → Nat} {em : Nat} {s0 : State} {a0 : Array Value} (G : kG kSTR l D cy sad em s0 a0) {ad : Nat → Nat} {ct : Nat → Option va_E} (N3 : kN3 s0) {Post : kPT} {PX : String → Prop} {x1 : Int32} (hM : KX l yX7_give [.code yX7_give prog_1_method_13_code 5 (some .int)] 7 120 2 12 [.ref (ad 1), .int x1] D s0 ad ct Post PX) (hPX : ∀ E, PX E → E = eIdx ∨ E = eSta) (hRt : ∀ v ad' ct', Post v ad' ct' → ∃ a : Int32, v = some (.int a)) {fo : Nat → Int64} (hO : ∀ v ad' ct', Post v ad' ct' → ad' 90 = ad 90 ∧ ct' 90 = some (.inl (cy 3, 1, aL fo))) {c1 : List Value} (h1c : ct 1 = some (.inr (9, c1))) :
    KM l yL_give [.codeWith yL_give method_14_code 4 (some .int) [(0, 9, 12, 21), (0, 9, 15, 15)]] 8 144 2 12 [.ref (ad 1), .int x1, .ref (ad 90)] D s0 ad ct (fun v ad' ct' => (∃ (a : Int32) (ct1 : Nat → Option va_E), Post (some (.int a)) ad' ct1 ∧ v = some (.int 0) ∧ ct' = up ct1 90 (.inl (cy 3, 1, aL (vp_updL fo 0 a.toInt64)))) ∨ (((PX eIdx ∧ v = some (.int 1)) ∨ (PX eSta ∧ v = some (.int 2))) ∧ ad' = ad ∧ ct' = ct)) := by
  refine KM.ofH G (by decide) (Nat.le_of_ble_eq_true rfl) (Nat.le_of_ble_eq_true rfl) ?_
  intro p e s m args below meth c ls Q hQ X ht hL hW hS
  obtain ⟨hx, hb, hr, hml, hown, hlocks, hts, hq, hK, hI⟩ := X
  replace hL := hL.nrm (l' := [some _, some _, some _, none]) rfl
  refine lv_aload_n hx hb dL_give_0 rfl (hL.at 2 rfl) ?_
  refine lv_iconst (v := 0) hx hb dL_give_1 (by decide) ?_
  refine lv_aload_n hx hb dL_give_2 rfl (hL.at 0 rfl) ?_
  refine lv_iload_n hx hb dL_give_3 rfl (hL.at 1 rfl) ?_
  refine k_callVX (q := (RX7, TX7, 15)) hx hb hml hown hts hK hI hS hW hL.1 h1c rfl (hM) (m5 (gT_in q765 rfl) (gT_in q766 rfl) (gT_in q767 rfl) (gT_in q55 rfl) (gT_in q768 rfl)) rfl (show kpar yX7_give 1 from ⟨by decide, by decide, by decide +kernel⟩) ⟨by decide, by decide⟩ (by show _ ≤ (2 : Nat); omega) (by show _ ≤ (12 : Nat); omega) rfl (by first | decide | exact Nat.le_of_ble_eq_true rfl) dL_give_4 (fun E ce q9 H locs hp hW hS hce hcv hcl => ?_) (fun v ad4 ct4 H locs hp hW hS => ?_)
  · rcases hPX E hp with rfl | rfl
    · refine k_catch (own := "TailorBenchLaw") (E := eIdx) hown ht [] [(0, 9, 15, 15)] (0, 9, 12, 21) rfl (fun z hz => nomatch hz) (by decide) (by decide) (hq _ q501 rfl) (hq _ q302 rfl) hce hcv hcl ?_
      refine k_ast_n hx hb hL (i := 3) rfl (by decide) dL_give_12 (fun ls hL => ?_)
      refine lv_iconst (v := 1) hx hb dL_give_13 (by decide) ?_
      rw [hQ]
      exact k_iret hx hb hr hlocks hW hS (by omega) (by omega) dL_give_14 (Or.inr ⟨Or.inl ⟨hp, rfl⟩, rfl, rfl⟩)
    · refine k_catch (own := "TailorBenchLaw") (E := eSta) hown ht [(0, 9, 12, 21)] [] (0, 9, 15, 15) rfl (fun z hz => by
        simp only [List.mem_cons, List.not_mem_nil, or_false] at hz
        subst hz
        exact ⟨by decide, _, hq _ q501 rfl, va_Nc.moved hI.1.alike N3.2.2⟩) (by decide) (by decide) (hq _ q443 rfl) (hq _ q451 rfl) hce hcv hcl ?_
      refine k_ast_n hx hb hL (i := 3) rfl (by decide) dL_give_15 (fun ls hL => ?_)
      refine lv_iconst (v := 2) hx hb dL_give_16 (by decide) ?_
      rw [hQ]
      exact k_iret hx hb hr hlocks hW hS (by omega) (by omega) dL_give_17 (Or.inr ⟨Or.inr (⟨hp, rfl⟩), rfl, rfl⟩)
  obtain ⟨a, rfl⟩ := hRt _ _ _ hp
  obtain ⟨hO1, hO2⟩ := hO _ _ _ hp
  rw [← hO1]
  refine lv_i2l hx hb dL_give_7 rfl ?_
  refine k_last hx hb hK hW hS hO2 (by omega) 0 (by omega) (by omega) rfl dL_give_8 (fun H locs hW hS => ?_)
  refine lv_goto (tgt := 18) hx hb dL_give_9 (by decide) ?_
  refine lv_iconst (v := 0) hx hb dL_give_18 (by decide) ?_
  rw [hQ]
  exact k_iret hx hb hr hlocks hW hS (by omega) (by omega) dL_give_19 (Or.inl ⟨a, _, hp, rfl, rfl⟩)

set_option maxHeartbeats 2000000 in
set_option maxRecDepth 100000 in
/-- TailorBenchLaw.pass  -/
theorem w_pass {l : Launch} {D : va_G} {cy : Nat → ClassId} {sad : Nat → Nat} {em : Nat} {s0 : State} {a0 : Array Value} (G : kG kSTR l D cy sad em s0 a0) {ad : Nat → Nat} {ct : Nat → Option va_E} (N3 : kN3 s0) {Post : kPT} {PX : String → Prop} {x1 : Int32} (hM : KX l yX7_pass [.code yX7_pass prog_1_method_14_code 2 (some .double)] 6 90 1 6 [.ref (ad 1), .int x1] D s0 ad ct Post PX) (hPX : ∀ E, PX E → E = eArg) (hRt : ∀ v ad' ct', Post v ad' ct' → ∃ a : UInt64, v = some (.double a)) {fo : Nat → UInt64} (hO : ∀ v ad' ct', Post v ad' ct' → ad' 91 = ad 91 ∧ ct' 91 = some (.inl (cy 0, 1, aD fo))) {c1 : List Value} (h1c : ct 1 = some (.inr (9, c1))) :
    KM l yL_pass [.codeWith yL_pass method_15_code 4 (some .int) [(0, 8, 11, 13)]] 7 111 1 6 [.ref (ad 1), .int x1, .ref (ad 91)] D s0 ad ct (fun v ad' ct' => (∃ (a : UInt64) (ct1 : Nat → Option va_E), Post (some (.double a)) ad' ct1 ∧ v = some (.int 0) ∧ ct' = up ct1 91 (.inl (cy 0, 1, aD (vf_upd fo 0 a)))) ∨ (((PX eArg ∧ v = some (.int 1))) ∧ ad' = ad ∧ ct' = ct)) := by
  refine KM.ofH G (by decide) (Nat.le_of_ble_eq_true rfl) (Nat.le_of_ble_eq_true rfl) ?_
  intro p e s m args below meth c ls Q hQ X ht hL hW hS
  obtain ⟨hx, hb, hr, hml, hown, hlocks, hts, hq, hK, hI⟩ := X
  replace hL := hL.nrm (l' := [some _, some _, some _, none]) rfl
  refine lv_aload_n hx hb dL_pass_0 rfl (hL.at 2 rfl) ?_
  refine lv_iconst (v := 0) hx hb dL_pass_1 (by decide) ?_
  refine lv_aload_n hx hb dL_pass_2 rfl (hL.at 0 rfl) ?_
  refine lv_iload_n hx hb dL_pass_3 rfl (hL.at 1 rfl) ?_
  refine k_callVX (q := (RX7, TX7, 15)) hx hb hml hown hts hK hI hS hW hL.1 h1c rfl (hM) (m5 (gT_in q774 rfl) (gT_in q775 rfl) (gT_in q776 rfl) (gT_in q55 rfl) (gT_in q777 rfl)) rfl (show kpar yX7_pass 1 from ⟨by decide, by decide, by decide +kernel⟩) ⟨by decide, by decide⟩ (by show _ ≤ (1 : Nat); omega) (by show _ ≤ (6 : Nat); omega) rfl (by first | decide | exact Nat.le_of_ble_eq_true rfl) dL_pass_4 (fun E ce q9 H locs hp hW hS hce hcv hcl => ?_) (fun v ad4 ct4 H locs hp hW hS => ?_)
  · have hE9 := hPX E hp
    subst hE9
    refine k_catch (own := "TailorBenchLaw") (E := eArg) hown ht [] [] (0, 8, 11, 13) rfl (fun z hz => nomatch hz) (by decide) (by decide) (hq _ q442 rfl) (hq _ q222 rfl) hce hcv hcl ?_
    refine k_ast_n hx hb hL (i := 3) rfl (by decide) dL_pass_11 (fun ls hL => ?_)
    refine lv_iconst (v := 1) hx hb dL_pass_12 (by decide) ?_
    rw [hQ]
    exact k_iret hx hb hr hlocks hW hS (by omega) (by omega) dL_pass_13 (Or.inr ⟨⟨hp, rfl⟩, rfl, rfl⟩)
  obtain ⟨a, rfl⟩ := hRt _ _ _ hp
  obtain ⟨hO1, hO2⟩ := hO _ _ _ hp
  rw [← hO1]
  refine k_dast hx hb hK hW hS hO2 (by omega) 0 (by omega) (by omega) rfl dL_pass_7 (fun H locs hW hS => ?_)
  refine lv_goto (tgt := 14) hx hb dL_pass_8 (by decide) ?_
  refine lv_iconst (v := 0) hx hb dL_pass_14 (by decide) ?_
  rw [hQ]
  exact k_iret hx hb hr hlocks hW hS (by omega) (by omega) dL_pass_15 (Or.inl ⟨a, _, hp, rfl, rfl⟩)

set_option maxHeartbeats 2000000 in
set_option maxRecDepth 100000 in
/-- TailorBenchLaw.ofCloth  -/
theorem w_ofCloth {l : Launch} {D : va_G} {cy : Nat → ClassId} {sad : Nat → Nat} {em : Nat} {s0 : State} {a0 : Array Value} (G : kG kSTR l D cy sad em s0 a0) {ad : Nat → Nat} {ct : Nat → Option va_E} (N3 : kN3 s0) {Post : kPT} {PX : String → Prop} {x1 : Int32} {x2 : Int32} (hM : KX l yX7_ofCloth [.code yX7_ofCloth prog_1_method_17_code 4 (some .double)] 7 120 2 12 [.ref (ad 1), .int x1, .int x2] D s0 ad ct Post PX) (hPX : ∀ E, PX E → E = eIdx ∨ E = eArg) (hRt : ∀ v ad' ct', Post v ad' ct' → ∃ a : UInt64, v = some (.double a)) {fo : Nat → UInt64} (hO : ∀ v ad' ct', Post v ad' ct' → ad' 91 = ad 91 ∧ ct' 91 = some (.inl (cy 0, 1, aD fo))) {c1 : List Value} (h1c : ct 1 = some (.inr (9, c1))) :
    KM l yL_ofCloth [.codeWith yL_ofCloth method_16_code 5 (some .int) [(0, 9, 12, 21), (0, 9, 16, 13)]] 8 143 2 12 [.ref (ad 1), .int x1, .int x2, .ref (ad 91)] D s0 ad ct (fun v ad' ct' => (∃ (a : UInt64) (ct1 : Nat → Option va_E), Post (some (.double a)) ad' ct1 ∧ v = some (.int 0) ∧ ct' = up ct1 91 (.inl (cy 0, 1, aD (vf_upd fo 0 a)))) ∨ (((PX eIdx ∧ v = some (.int 1)) ∨ (PX eArg ∧ v = some (.int 2))) ∧ ad' = ad ∧ ct' = ct)) := by
  refine KM.ofH G (by decide) (Nat.le_of_ble_eq_true rfl) (Nat.le_of_ble_eq_true rfl) ?_
  intro p e s m args below meth c ls Q hQ X ht hL hW hS
  obtain ⟨hx, hb, hr, hml, hown, hlocks, hts, hq, hK, hI⟩ := X
  replace hL := hL.nrm (l' := [some _, some _, some _, some _, none]) rfl
  refine lv_aload_n hx hb dL_ofCloth_0 rfl (hL.at 3 rfl) ?_
  refine lv_iconst (v := 0) hx hb dL_ofCloth_1 (by decide) ?_
  refine lv_aload_n hx hb dL_ofCloth_2 rfl (hL.at 0 rfl) ?_
  refine lv_iload_n hx hb dL_ofCloth_3 rfl (hL.at 1 rfl) ?_
  refine lv_iload_n hx hb dL_ofCloth_4 rfl (hL.at 2 rfl) ?_
  refine k_callVX (q := (RX7, TX7, 15)) hx hb hml hown hts hK hI hS hW hL.1 h1c rfl (hM) (m5 (gT_in q782 rfl) (gT_in q293 rfl) (gT_in q294 rfl) (gT_in q55 rfl) (gT_in q295 rfl)) rfl (show kpar yX7_ofCloth 2 from ⟨by decide, by decide, by decide +kernel⟩) ⟨by decide, by decide⟩ (by show _ ≤ (2 : Nat); omega) (by show _ ≤ (12 : Nat); omega) rfl (by first | decide | exact Nat.le_of_ble_eq_true rfl) dL_ofCloth_5 (fun E ce q9 H locs hp hW hS hce hcv hcl => ?_) (fun v ad5 ct5 H locs hp hW hS => ?_)
  · rcases hPX E hp with rfl | rfl
    · refine k_catch (own := "TailorBenchLaw") (E := eIdx) hown ht [] [(0, 9, 16, 13)] (0, 9, 12, 21) rfl (fun z hz => nomatch hz) (by decide) (by decide) (hq _ q501 rfl) (hq _ q302 rfl) hce hcv hcl ?_
      refine k_ast hx hb hL (i := 4) (by decide) dL_ofCloth_12 (fun ls hL => ?_)
      refine lv_iconst (v := 1) hx hb dL_ofCloth_14 (by decide) ?_
      rw [hQ]
      exact k_iret hx hb hr hlocks hW hS (by omega) (by omega) dL_ofCloth_15 (Or.inr ⟨Or.inl ⟨hp, rfl⟩, rfl, rfl⟩)
    · refine k_catch (own := "TailorBenchLaw") (E := eArg) hown ht [(0, 9, 12, 21)] [] (0, 9, 16, 13) rfl (fun z hz => by
        simp only [List.mem_cons, List.not_mem_nil, or_false] at hz
        subst hz
        exact ⟨by decide, _, hq _ q501 rfl, va_Nc.moved hI.1.alike N3.2.1⟩) (by decide) (by decide) (hq _ q442 rfl) (hq _ q222 rfl) hce hcv hcl ?_
      refine k_ast hx hb hL (i := 4) (by decide) dL_ofCloth_16 (fun ls hL => ?_)
      refine lv_iconst (v := 2) hx hb dL_ofCloth_18 (by decide) ?_
      rw [hQ]
      exact k_iret hx hb hr hlocks hW hS (by omega) (by omega) dL_ofCloth_19 (Or.inr ⟨Or.inr (⟨hp, rfl⟩), rfl, rfl⟩)
  obtain ⟨a, rfl⟩ := hRt _ _ _ hp
  obtain ⟨hO1, hO2⟩ := hO _ _ _ hp
  rw [← hO1]
  refine k_dast hx hb hK hW hS hO2 (by omega) 0 (by omega) (by omega) rfl dL_ofCloth_8 (fun H locs hW hS => ?_)
  refine lv_goto (tgt := 20) hx hb dL_ofCloth_9 (by decide) ?_
  refine lv_iconst (v := 0) hx hb dL_ofCloth_20 (by decide) ?_
  rw [hQ]
  exact k_iret hx hb hr hlocks hW hS (by omega) (by omega) dL_ofCloth_21 (Or.inl ⟨a, _, hp, rfl, rfl⟩)

set_option maxHeartbeats 2000000 in
set_option maxRecDepth 100000 in
/-- TailorBenchLaw.size  -/
theorem w_size {l : Launch} {D : va_G} {cy : Nat → ClassId} {sad : Nat → Nat} {em : Nat} {s0 : State} {a0 : Array Value} (G : kG kSTR l D cy sad em s0 a0) {ad : Nat → Nat} {ct : Nat → Option va_E} (N3 : kN3 s0) {Post : kPT} {PX : String → Prop} {x1 : Int32} {x2 : Int32} {x3 : Int32} {x4 : Int32} (hM : KX l yX7_size [.code yX7_size prog_1_method_18_code 8 (some .double)] 7 120 2 12 [.ref (ad 1), .int x1, .int x2, .int x3, .int x4] D s0 ad ct Post PX) (hPX : ∀ E, PX E → E = eIdx) (hRt : ∀ v ad' ct', Post v ad' ct' → ∃ a : UInt64, v = some (.double a)) {fo : Nat → UInt64} (hO : ∀ v ad' ct', Post v ad' ct' → ad' 91 = ad 91 ∧ ct' 91 = some (.inl (cy 0, 1, aD fo))) {c1 : List Value} (h1c : ct 1 = some (.inr (9, c1))) :
    KM l yL_size [.codeWith yL_size method_17_code 7 (some .int) [(0, 13, 16, 21)]] 8 147 2 12 [.ref (ad 1), .int x1, .int x2, .int x3, .int x4, .ref (ad 91)] D s0 ad ct (fun v ad' ct' => (∃ (a : UInt64) (ct1 : Nat → Option va_E), Post (some (.double a)) ad' ct1 ∧ v = some (.int 0) ∧ ct' = up ct1 91 (.inl (cy 0, 1, aD (vf_upd fo 0 a)))) ∨ (((PX eIdx ∧ v = some (.int 1))) ∧ ad' = ad ∧ ct' = ct)) := by
  refine KM.ofH G (by decide) (Nat.le_of_ble_eq_true rfl) (Nat.le_of_ble_eq_true rfl) ?_
  intro p e s m args below meth c ls Q hQ X ht hL hW hS
  obtain ⟨hx, hb, hr, hml, hown, hlocks, hts, hq, hK, hI⟩ := X
  replace hL := hL.nrm (l' := [some _, some _, some _, some _, some _, some _, none]) rfl
  refine lv_aload hx hb dL_size_0 (hL.at 5 rfl) ?_
  refine lv_iconst (v := 0) hx hb dL_size_2 (by decide) ?_
  refine lv_aload_n hx hb dL_size_3 rfl (hL.at 0 rfl) ?_
  refine lv_iload_n hx hb dL_size_4 rfl (hL.at 1 rfl) ?_
  refine lv_iload_n hx hb dL_size_5 rfl (hL.at 2 rfl) ?_
  refine lv_iload_n hx hb dL_size_6 rfl (hL.at 3 rfl) ?_
  refine lv_iload hx hb dL_size_7 (hL.at 4 rfl) ?_
  refine k_callVX (q := (RX7, TX7, 15)) hx hb hml hown hts hK hI hS hW hL.1 h1c rfl (hM) (m5 (gT_in q786 rfl) (gT_in q787 rfl) (gT_in q788 rfl) (gT_in q55 rfl) (gT_in q789 rfl)) rfl (show kpar yX7_size 4 from ⟨by decide, by decide, by decide +kernel⟩) ⟨by decide, by decide⟩ (by show _ ≤ (2 : Nat); omega) (by show _ ≤ (12 : Nat); omega) rfl (by first | decide | exact Nat.le_of_ble_eq_true rfl) dL_size_9 (fun E ce q9 H locs hp hW hS hce hcv hcl => ?_) (fun v ad9 ct9 H locs hp hW hS => ?_)
  · have hE9 := hPX E hp
    subst hE9
    refine k_catch (own := "TailorBenchLaw") (E := eIdx) hown ht [] [] (0, 13, 16, 21) rfl (fun z hz => nomatch hz) (by decide) (by decide) (hq _ q501 rfl) (hq _ q302 rfl) hce hcv hcl ?_
    refine k_ast hx hb hL (i := 6) (by decide) dL_size_16 (fun ls hL => ?_)
    refine lv_iconst (v := 1) hx hb dL_size_18 (by decide) ?_
    rw [hQ]
    exact k_iret hx hb hr hlocks hW hS (by omega) (by omega) dL_size_19 (Or.inr ⟨⟨hp, rfl⟩, rfl, rfl⟩)
  obtain ⟨a, rfl⟩ := hRt _ _ _ hp
  obtain ⟨hO1, hO2⟩ := hO _ _ _ hp
  rw [← hO1]
  refine k_dast hx hb hK hW hS hO2 (by omega) 0 (by omega) (by omega) rfl dL_size_12 (fun H locs hW hS => ?_)
  refine lv_goto (tgt := 20) hx hb dL_size_13 (by decide) ?_
  refine lv_iconst (v := 0) hx hb dL_size_20 (by decide) ?_
  rw [hQ]
  exact k_iret hx hb hr hlocks hW hS (by omega) (by omega) dL_size_21 (Or.inl ⟨a, _, hp, rfl, rfl⟩)

set_option maxHeartbeats 2000000 in
set_option maxRecDepth 100000 in
/-- TailorBenchLaw.ofOrder  -/
theorem w_ofOrder {l : Launch} {D : va_G} {cy : Nat → ClassId} {sad : Nat → Nat} {em : Nat} {s0 : State} {a0 : Array Value} (G : kG kSTR l D cy sad em s0 a0) {ad : Nat → Nat} {ct : Nat → Option va_E} (N3 : kN3 s0) {Post : kPT} {PX : String → Prop} {x1 : Int32} {x2 : Int32} (hM : KX l yX7_ofOrder [.code yX7_ofOrder prog_1_method_19_code 4 (some .int)] 7 120 2 12 [.ref (ad 1), .int x1, .int x2] D s0 ad ct Post PX) (hPX : ∀ E, PX E → E = eIdx ∨ E = eArg) (hRt : ∀ v ad' ct', Post v ad' ct' → ∃ a : Int32, v = some (.int a)) {fo : Nat → Int64} (hO : ∀ v ad' ct', Post v ad' ct' → ad' 90 = ad 90 ∧ ct' 90 = some (.inl (cy 3, 1, aL fo))) {c1 : List Value} (h1c : ct 1 = some (.inr (9, c1))) :
    KM l yL_ofOrder [.codeWith yL_ofOrder method_18_code 5 (some .int) [(0, 10, 13, 21), (0, 10, 17, 13)]] 8 143 2 12 [.ref (ad 1), .int x1, .int x2, .ref (ad 90)] D s0 ad ct (fun v ad' ct' => (∃ (a : Int32) (ct1 : Nat → Option va_E), Post (some (.int a)) ad' ct1 ∧ v = some (.int 0) ∧ ct' = up ct1 90 (.inl (cy 3, 1, aL (vp_updL fo 0 a.toInt64)))) ∨ (((PX eIdx ∧ v = some (.int 1)) ∨ (PX eArg ∧ v = some (.int 2))) ∧ ad' = ad ∧ ct' = ct)) := by
  refine KM.ofH G (by decide) (Nat.le_of_ble_eq_true rfl) (Nat.le_of_ble_eq_true rfl) ?_
  intro p e s m args below meth c ls Q hQ X ht hL hW hS
  obtain ⟨hx, hb, hr, hml, hown, hlocks, hts, hq, hK, hI⟩ := X
  replace hL := hL.nrm (l' := [some _, some _, some _, some _, none]) rfl
  refine lv_aload_n hx hb dL_ofOrder_0 rfl (hL.at 3 rfl) ?_
  refine lv_iconst (v := 0) hx hb dL_ofOrder_1 (by decide) ?_
  refine lv_aload_n hx hb dL_ofOrder_2 rfl (hL.at 0 rfl) ?_
  refine lv_iload_n hx hb dL_ofOrder_3 rfl (hL.at 1 rfl) ?_
  refine lv_iload_n hx hb dL_ofOrder_4 rfl (hL.at 2 rfl) ?_
  refine k_callVX (q := (RX7, TX7, 15)) hx hb hml hown hts hK hI hS hW hL.1 h1c rfl (hM) (m5 (gT_in q796 rfl) (gT_in q322 rfl) (gT_in q323 rfl) (gT_in q55 rfl) (gT_in q324 rfl)) rfl (show kpar yX7_ofOrder 2 from ⟨by decide, by decide, by decide +kernel⟩) ⟨by decide, by decide⟩ (by show _ ≤ (2 : Nat); omega) (by show _ ≤ (12 : Nat); omega) rfl (by first | decide | exact Nat.le_of_ble_eq_true rfl) dL_ofOrder_5 (fun E ce q9 H locs hp hW hS hce hcv hcl => ?_) (fun v ad5 ct5 H locs hp hW hS => ?_)
  · rcases hPX E hp with rfl | rfl
    · refine k_catch (own := "TailorBenchLaw") (E := eIdx) hown ht [] [(0, 10, 17, 13)] (0, 10, 13, 21) rfl (fun z hz => nomatch hz) (by decide) (by decide) (hq _ q501 rfl) (hq _ q302 rfl) hce hcv hcl ?_
      refine k_ast hx hb hL (i := 4) (by decide) dL_ofOrder_13 (fun ls hL => ?_)
      refine lv_iconst (v := 1) hx hb dL_ofOrder_15 (by decide) ?_
      rw [hQ]
      exact k_iret hx hb hr hlocks hW hS (by omega) (by omega) dL_ofOrder_16 (Or.inr ⟨Or.inl ⟨hp, rfl⟩, rfl, rfl⟩)
    · refine k_catch (own := "TailorBenchLaw") (E := eArg) hown ht [(0, 10, 13, 21)] [] (0, 10, 17, 13) rfl (fun z hz => by
        simp only [List.mem_cons, List.not_mem_nil, or_false] at hz
        subst hz
        exact ⟨by decide, _, hq _ q501 rfl, va_Nc.moved hI.1.alike N3.2.1⟩) (by decide) (by decide) (hq _ q442 rfl) (hq _ q222 rfl) hce hcv hcl ?_
      refine k_ast hx hb hL (i := 4) (by decide) dL_ofOrder_17 (fun ls hL => ?_)
      refine lv_iconst (v := 2) hx hb dL_ofOrder_19 (by decide) ?_
      rw [hQ]
      exact k_iret hx hb hr hlocks hW hS (by omega) (by omega) dL_ofOrder_20 (Or.inr ⟨Or.inr (⟨hp, rfl⟩), rfl, rfl⟩)
  obtain ⟨a, rfl⟩ := hRt _ _ _ hp
  obtain ⟨hO1, hO2⟩ := hO _ _ _ hp
  rw [← hO1]
  refine lv_i2l hx hb dL_ofOrder_8 rfl ?_
  refine k_last hx hb hK hW hS hO2 (by omega) 0 (by omega) (by omega) rfl dL_ofOrder_9 (fun H locs hW hS => ?_)
  refine lv_goto (tgt := 21) hx hb dL_ofOrder_10 (by decide) ?_
  refine lv_iconst (v := 0) hx hb dL_ofOrder_21 (by decide) ?_
  rw [hQ]
  exact k_iret hx hb hr hlocks hW hS (by omega) (by omega) dL_ofOrder_22 (Or.inl ⟨a, _, hp, rfl, rfl⟩)

set_option maxHeartbeats 2000000 in
set_option maxRecDepth 100000 in
/-- TailorBenchLaw.tight  -/
theorem w_tight {l : Launch} {D : va_G} {cy : Nat → ClassId} {sad : Nat → Nat} {em : Nat} {s0 : State} {a0 : Array Value} (G : kG kSTR l D cy sad em s0 a0) {ad : Nat → Nat} {ct : Nat → Option va_E} (N3 : kN3 s0) {Post : kPT} {PX : String → Prop} {x1 : Int32} {x2 : Int32} (hM : KX l yX7_tight [.code yX7_tight prog_1_method_20_code 3 (some .double)] 7 120 2 12 [.ref (ad 1), .int x1, .int x2] D s0 ad ct Post PX) (hPX : ∀ E, PX E → E = eIdx) (hRt : ∀ v ad' ct', Post v ad' ct' → ∃ a : UInt64, v = some (.double a)) {fo : Nat → UInt64} (hO : ∀ v ad' ct', Post v ad' ct' → ad' 91 = ad 91 ∧ ct' 91 = some (.inl (cy 0, 1, aD fo))) {c1 : List Value} (h1c : ct 1 = some (.inr (9, c1))) :
    KM l yL_tight [.codeWith yL_tight method_19_code 5 (some .int) [(0, 9, 12, 21)]] 8 142 2 12 [.ref (ad 1), .int x1, .int x2, .ref (ad 91)] D s0 ad ct (fun v ad' ct' => (∃ (a : UInt64) (ct1 : Nat → Option va_E), Post (some (.double a)) ad' ct1 ∧ v = some (.int 0) ∧ ct' = up ct1 91 (.inl (cy 0, 1, aD (vf_upd fo 0 a)))) ∨ (((PX eIdx ∧ v = some (.int 1))) ∧ ad' = ad ∧ ct' = ct)) := by
  refine KM.ofH G (by decide) (Nat.le_of_ble_eq_true rfl) (Nat.le_of_ble_eq_true rfl) ?_
  intro p e s m args below meth c ls Q hQ X ht hL hW hS
  obtain ⟨hx, hb, hr, hml, hown, hlocks, hts, hq, hK, hI⟩ := X
  replace hL := hL.nrm (l' := [some _, some _, some _, some _, none]) rfl
  refine lv_aload_n hx hb dL_tight_0 rfl (hL.at 3 rfl) ?_
  refine lv_iconst (v := 0) hx hb dL_tight_1 (by decide) ?_
  refine lv_aload_n hx hb dL_tight_2 rfl (hL.at 0 rfl) ?_
  refine lv_iload_n hx hb dL_tight_3 rfl (hL.at 1 rfl) ?_
  refine lv_iload_n hx hb dL_tight_4 rfl (hL.at 2 rfl) ?_
  refine k_callVX (q := (RX7, TX7, 15)) hx hb hml hown hts hK hI hS hW hL.1 h1c rfl (hM) (m5 (gT_in q800 rfl) (gT_in q332 rfl) (gT_in q333 rfl) (gT_in q55 rfl) (gT_in q334 rfl)) rfl (show kpar yX7_tight 2 from ⟨by decide, by decide, by decide +kernel⟩) ⟨by decide, by decide⟩ (by show _ ≤ (2 : Nat); omega) (by show _ ≤ (12 : Nat); omega) rfl (by first | decide | exact Nat.le_of_ble_eq_true rfl) dL_tight_5 (fun E ce q9 H locs hp hW hS hce hcv hcl => ?_) (fun v ad5 ct5 H locs hp hW hS => ?_)
  · have hE9 := hPX E hp
    subst hE9
    refine k_catch (own := "TailorBenchLaw") (E := eIdx) hown ht [] [] (0, 9, 12, 21) rfl (fun z hz => nomatch hz) (by decide) (by decide) (hq _ q501 rfl) (hq _ q302 rfl) hce hcv hcl ?_
    refine k_ast hx hb hL (i := 4) (by decide) dL_tight_12 (fun ls hL => ?_)
    refine lv_iconst (v := 1) hx hb dL_tight_14 (by decide) ?_
    rw [hQ]
    exact k_iret hx hb hr hlocks hW hS (by omega) (by omega) dL_tight_15 (Or.inr ⟨⟨hp, rfl⟩, rfl, rfl⟩)
  obtain ⟨a, rfl⟩ := hRt _ _ _ hp
  obtain ⟨hO1, hO2⟩ := hO _ _ _ hp
  rw [← hO1]
  refine k_dast hx hb hK hW hS hO2 (by omega) 0 (by omega) (by omega) rfl dL_tight_8 (fun H locs hW hS => ?_)
  refine lv_goto (tgt := 16) hx hb dL_tight_9 (by decide) ?_
  refine lv_iconst (v := 0) hx hb dL_tight_16 (by decide) ?_
  rw [hQ]
  exact k_iret hx hb hr hlocks hW hS (by omega) (by omega) dL_tight_17 (Or.inl ⟨a, _, hp, rfl, rfl⟩)

set_option maxHeartbeats 2000000 in
set_option maxRecDepth 100000 in
/-- TailorBenchLaw.ready  -/
theorem w_ready {l : Launch} {D : va_G} {cy : Nat → ClassId} {sad : Nat → Nat} {em : Nat} {s0 : State} {a0 : Array Value} (G : kG kSTR l D cy sad em s0 a0) {ad : Nat → Nat} {ct : Nat → Option va_E} (N3 : kN3 s0) {Post : kPT} {PX : String → Prop} {x1 : Int32} (hM : KX l yX7_ready [.code yX7_ready prog_1_method_21_code 2 (some .double)] 7 120 2 12 [.ref (ad 1), .int x1] D s0 ad ct Post PX) (hPX : ∀ E, PX E → E = eIdx) (hRt : ∀ v ad' ct', Post v ad' ct' → ∃ a : UInt64, v = some (.double a)) {fo : Nat → UInt64} (hO : ∀ v ad' ct', Post v ad' ct' → ad' 91 = ad 91 ∧ ct' 91 = some (.inl (cy 0, 1, aD fo))) {c1 : List Value} (h1c : ct 1 = some (.inr (9, c1))) :
    KM l yL_ready [.codeWith yL_ready method_20_code 4 (some .int) [(0, 8, 11, 21)]] 8 141 2 12 [.ref (ad 1), .int x1, .ref (ad 91)] D s0 ad ct (fun v ad' ct' => (∃ (a : UInt64) (ct1 : Nat → Option va_E), Post (some (.double a)) ad' ct1 ∧ v = some (.int 0) ∧ ct' = up ct1 91 (.inl (cy 0, 1, aD (vf_upd fo 0 a)))) ∨ (((PX eIdx ∧ v = some (.int 1))) ∧ ad' = ad ∧ ct' = ct)) := by
  refine KM.ofH G (by decide) (Nat.le_of_ble_eq_true rfl) (Nat.le_of_ble_eq_true rfl) ?_
  intro p e s m args below meth c ls Q hQ X ht hL hW hS
  obtain ⟨hx, hb, hr, hml, hown, hlocks, hts, hq, hK, hI⟩ := X
  replace hL := hL.nrm (l' := [some _, some _, some _, none]) rfl
  refine lv_aload_n hx hb dL_ready_0 rfl (hL.at 2 rfl) ?_
  refine lv_iconst (v := 0) hx hb dL_ready_1 (by decide) ?_
  refine lv_aload_n hx hb dL_ready_2 rfl (hL.at 0 rfl) ?_
  refine lv_iload_n hx hb dL_ready_3 rfl (hL.at 1 rfl) ?_
  refine k_callVX (q := (RX7, TX7, 15)) hx hb hml hown hts hK hI hS hW hL.1 h1c rfl (hM) (m5 (gT_in q804 rfl) (gT_in q355 rfl) (gT_in q356 rfl) (gT_in q55 rfl) (gT_in q357 rfl)) rfl (show kpar yX7_ready 1 from ⟨by decide, by decide, by decide +kernel⟩) ⟨by decide, by decide⟩ (by show _ ≤ (2 : Nat); omega) (by show _ ≤ (12 : Nat); omega) rfl (by first | decide | exact Nat.le_of_ble_eq_true rfl) dL_ready_4 (fun E ce q9 H locs hp hW hS hce hcv hcl => ?_) (fun v ad4 ct4 H locs hp hW hS => ?_)
  · have hE9 := hPX E hp
    subst hE9
    refine k_catch (own := "TailorBenchLaw") (E := eIdx) hown ht [] [] (0, 8, 11, 21) rfl (fun z hz => nomatch hz) (by decide) (by decide) (hq _ q501 rfl) (hq _ q302 rfl) hce hcv hcl ?_
    refine k_ast_n hx hb hL (i := 3) rfl (by decide) dL_ready_11 (fun ls hL => ?_)
    refine lv_iconst (v := 1) hx hb dL_ready_12 (by decide) ?_
    rw [hQ]
    exact k_iret hx hb hr hlocks hW hS (by omega) (by omega) dL_ready_13 (Or.inr ⟨⟨hp, rfl⟩, rfl, rfl⟩)
  obtain ⟨a, rfl⟩ := hRt _ _ _ hp
  obtain ⟨hO1, hO2⟩ := hO _ _ _ hp
  rw [← hO1]
  refine k_dast hx hb hK hW hS hO2 (by omega) 0 (by omega) (by omega) rfl dL_ready_7 (fun H locs hW hS => ?_)
  refine lv_goto (tgt := 14) hx hb dL_ready_8 (by decide) ?_
  refine lv_iconst (v := 0) hx hb dL_ready_14 (by decide) ?_
  rw [hQ]
  exact k_iret hx hb hr hlocks hW hS (by omega) (by omega) dL_ready_15 (Or.inl ⟨a, _, hp, rfl, rfl⟩)

set_option maxHeartbeats 2000000 in
set_option maxRecDepth 100000 in
/-- TailorBenchLaw.free  -/
theorem w_free {l : Launch} {D : va_G} {cy : Nat → ClassId} {sad : Nat → Nat} {em : Nat} {s0 : State} {a0 : Array Value} (G : kG kSTR l D cy sad em s0 a0) {ad : Nat → Nat} {ct : Nat → Option va_E} (N3 : kN3 s0) {Post : kPT} {PX : String → Prop} {x1 : Int32} (hM : KX l yX7_free [.code yX7_free prog_1_method_22_code 2 (some .double)] 7 120 2 12 [.ref (ad 1), .int x1] D s0 ad ct Post PX) (hPX : ∀ E, PX E → E = eIdx) (hRt : ∀ v ad' ct', Post v ad' ct' → ∃ a : UInt64, v = some (.double a)) {fo : Nat → UInt64} (hO : ∀ v ad' ct', Post v ad' ct' → ad' 91 = ad 91 ∧ ct' 91 = some (.inl (cy 0, 1, aD fo))) {c1 : List Value} (h1c : ct 1 = some (.inr (9, c1))) :
    KM l yL_free [.codeWith yL_free method_21_code 4 (some .int) [(0, 8, 11, 21)]] 8 141 2 12 [.ref (ad 1), .int x1, .ref (ad 91)] D s0 ad ct (fun v ad' ct' => (∃ (a : UInt64) (ct1 : Nat → Option va_E), Post (some (.double a)) ad' ct1 ∧ v = some (.int 0) ∧ ct' = up ct1 91 (.inl (cy 0, 1, aD (vf_upd fo 0 a)))) ∨ (((PX eIdx ∧ v = some (.int 1))) ∧ ad' = ad ∧ ct' = ct)) := by
  refine KM.ofH G (by decide) (Nat.le_of_ble_eq_true rfl) (Nat.le_of_ble_eq_true rfl) ?_
  intro p e s m args below meth c ls Q hQ X ht hL hW hS
  obtain ⟨hx, hb, hr, hml, hown, hlocks, hts, hq, hK, hI⟩ := X
  replace hL := hL.nrm (l' := [some _, some _, some _, none]) rfl
  refine lv_aload_n hx hb dL_free_0 rfl (hL.at 2 rfl) ?_
  refine lv_iconst (v := 0) hx hb dL_free_1 (by decide) ?_
  refine lv_aload_n hx hb dL_free_2 rfl (hL.at 0 rfl) ?_
  refine lv_iload_n hx hb dL_free_3 rfl (hL.at 1 rfl) ?_
  refine k_callVX (q := (RX7, TX7, 15)) hx hb hml hown hts hK hI hS hW hL.1 h1c rfl (hM) (m5 (gT_in q808 rfl) (gT_in q431 rfl) (gT_in q432 rfl) (gT_in q55 rfl) (gT_in q433 rfl)) rfl (show kpar yX7_free 1 from ⟨by decide, by decide, by decide +kernel⟩) ⟨by decide, by decide⟩ (by show _ ≤ (2 : Nat); omega) (by show _ ≤ (12 : Nat); omega) rfl (by first | decide | exact Nat.le_of_ble_eq_true rfl) dL_free_4 (fun E ce q9 H locs hp hW hS hce hcv hcl => ?_) (fun v ad4 ct4 H locs hp hW hS => ?_)
  · have hE9 := hPX E hp
    subst hE9
    refine k_catch (own := "TailorBenchLaw") (E := eIdx) hown ht [] [] (0, 8, 11, 21) rfl (fun z hz => nomatch hz) (by decide) (by decide) (hq _ q501 rfl) (hq _ q302 rfl) hce hcv hcl ?_
    refine k_ast_n hx hb hL (i := 3) rfl (by decide) dL_free_11 (fun ls hL => ?_)
    refine lv_iconst (v := 1) hx hb dL_free_12 (by decide) ?_
    rw [hQ]
    exact k_iret hx hb hr hlocks hW hS (by omega) (by omega) dL_free_13 (Or.inr ⟨⟨hp, rfl⟩, rfl, rfl⟩)
  obtain ⟨a, rfl⟩ := hRt _ _ _ hp
  obtain ⟨hO1, hO2⟩ := hO _ _ _ hp
  rw [← hO1]
  refine k_dast hx hb hK hW hS hO2 (by omega) 0 (by omega) (by omega) rfl dL_free_7 (fun H locs hW hS => ?_)
  refine lv_goto (tgt := 14) hx hb dL_free_8 (by decide) ?_
  refine lv_iconst (v := 0) hx hb dL_free_14 (by decide) ?_
  rw [hQ]
  exact k_iret hx hb hr hlocks hW hS (by omega) (by omega) dL_free_15 (Or.inl ⟨a, _, hp, rfl, rfl⟩)

set_option maxHeartbeats 2000000 in
set_option maxRecDepth 100000 in
/-- TailorBenchLaw.many  -/
theorem w_many {l : Launch} {D : va_G} {cy : Nat → ClassId} {sad : Nat → Nat} {em : Nat} {s0 : State} {a0 : Array Value} (G : kG kSTR l D cy sad em s0 a0) {ad : Nat → Nat} {ct : Nat → Option va_E} (N3 : kN3 s0) {Post : kPT} {PX : String → Prop} {x1 : Int32} (hM : KX l yX7_many [.code yX7_many prog_1_method_24_code 2 (some .int)] 7 120 2 12 [.ref (ad 1), .int x1] D s0 ad ct Post PX) (hPX : ∀ E, PX E → E = eArg) (hRt : ∀ v ad' ct', Post v ad' ct' → ∃ a : Int32, v = some (.int a)) {fo : Nat → Int64} (hO : ∀ v ad' ct', Post v ad' ct' → ad' 90 = ad 90 ∧ ct' 90 = some (.inl (cy 3, 1, aL fo))) {c1 : List Value} (h1c : ct 1 = some (.inr (9, c1))) :
    KM l yL_many [.codeWith yL_many method_22_code 4 (some .int) [(0, 9, 12, 13)]] 8 141 2 12 [.ref (ad 1), .int x1, .ref (ad 90)] D s0 ad ct (fun v ad' ct' => (∃ (a : Int32) (ct1 : Nat → Option va_E), Post (some (.int a)) ad' ct1 ∧ v = some (.int 0) ∧ ct' = up ct1 90 (.inl (cy 3, 1, aL (vp_updL fo 0 a.toInt64)))) ∨ (((PX eArg ∧ v = some (.int 1))) ∧ ad' = ad ∧ ct' = ct)) := by
  refine KM.ofH G (by decide) (Nat.le_of_ble_eq_true rfl) (Nat.le_of_ble_eq_true rfl) ?_
  intro p e s m args below meth c ls Q hQ X ht hL hW hS
  obtain ⟨hx, hb, hr, hml, hown, hlocks, hts, hq, hK, hI⟩ := X
  replace hL := hL.nrm (l' := [some _, some _, some _, none]) rfl
  refine lv_aload_n hx hb dL_many_0 rfl (hL.at 2 rfl) ?_
  refine lv_iconst (v := 0) hx hb dL_many_1 (by decide) ?_
  refine lv_aload_n hx hb dL_many_2 rfl (hL.at 0 rfl) ?_
  refine lv_iload_n hx hb dL_many_3 rfl (hL.at 1 rfl) ?_
  refine k_callVX (q := (RX7, TX7, 15)) hx hb hml hown hts hK hI hS hW hL.1 h1c rfl (hM) (m5 (gT_in q812 rfl) (gT_in q213 rfl) (gT_in q214 rfl) (gT_in q55 rfl) (gT_in q215 rfl)) rfl (show kpar yX7_many 1 from ⟨by decide, by decide, by decide +kernel⟩) ⟨by decide, by decide⟩ (by show _ ≤ (2 : Nat); omega) (by show _ ≤ (12 : Nat); omega) rfl (by first | decide | exact Nat.le_of_ble_eq_true rfl) dL_many_4 (fun E ce q9 H locs hp hW hS hce hcv hcl => ?_) (fun v ad4 ct4 H locs hp hW hS => ?_)
  · have hE9 := hPX E hp
    subst hE9
    refine k_catch (own := "TailorBenchLaw") (E := eArg) hown ht [] [] (0, 9, 12, 13) rfl (fun z hz => nomatch hz) (by decide) (by decide) (hq _ q442 rfl) (hq _ q222 rfl) hce hcv hcl ?_
    refine k_ast_n hx hb hL (i := 3) rfl (by decide) dL_many_12 (fun ls hL => ?_)
    refine lv_iconst (v := 1) hx hb dL_many_13 (by decide) ?_
    rw [hQ]
    exact k_iret hx hb hr hlocks hW hS (by omega) (by omega) dL_many_14 (Or.inr ⟨⟨hp, rfl⟩, rfl, rfl⟩)
  obtain ⟨a, rfl⟩ := hRt _ _ _ hp
  obtain ⟨hO1, hO2⟩ := hO _ _ _ hp
  rw [← hO1]
  refine lv_i2l hx hb dL_many_7 rfl ?_
  refine k_last hx hb hK hW hS hO2 (by omega) 0 (by omega) (by omega) rfl dL_many_8 (fun H locs hW hS => ?_)
  refine lv_goto (tgt := 15) hx hb dL_many_9 (by decide) ?_
  refine lv_iconst (v := 0) hx hb dL_many_15 (by decide) ?_
  rw [hQ]
  exact k_iret hx hb hr hlocks hW hS (by omega) (by omega) dL_many_16 (Or.inl ⟨a, _, hp, rfl, rfl⟩)

set_option maxHeartbeats 2000000 in
set_option maxRecDepth 100000 in
/-- TailorBenchLaw.lay  -/
theorem w_lay {l : Launch} {D : va_G} {cy : Nat → ClassId} {sad : Nat → Nat} {em : Nat} {s0 : State} {a0 : Array Value} (G : kG kSTR l D cy sad em s0 a0) {ad : Nat → Nat} {ct : Nat → Option va_E} (N3 : kN3 s0) {Post : kPT} {PX : String → Prop} {x1 : Int32} {x2 : Int32} {x3 : Int32} {x4 : Int32} (hM : KX l yX7_lay [.code yX7_lay prog_1_method_25_code 8 (some .double)] 8 150 5 30 [.ref (ad 1), .int x1, .int x2, .int x3, .int x4] D s0 ad ct Post PX) (hPX : ∀ E, PX E → E = eIdx ∨ E = eArg) (hRt : ∀ v ad' ct', Post v ad' ct' → ∃ a : UInt64, v = some (.double a)) {fo : Nat → UInt64} (hO : ∀ v ad' ct', Post v ad' ct' → ad' 91 = ad 91 ∧ ct' 91 = some (.inl (cy 0, 1, aD fo))) {c1 : List Value} (h1c : ct 1 = some (.inr (9, c1))) :
    KM l yL_lay [.codeWith yL_lay method_23_code 7 (some .int) [(0, 13, 16, 21), (0, 13, 20, 13)]] 9 177 5 30 [.ref (ad 1), .int x1, .int x2, .int x3, .int x4, .ref (ad 91)] D s0 ad ct (fun v ad' ct' => (∃ (a : UInt64) (ct1 : Nat → Option va_E), Post (some (.double a)) ad' ct1 ∧ v = some (.int 0) ∧ ct' = up ct1 91 (.inl (cy 0, 1, aD (vf_upd fo 0 a)))) ∨ (((PX eIdx ∧ v = some (.int 1)) ∨ (PX eArg ∧ v = some (.int 2))) ∧ ad' = ad ∧ ct' = ct)) := by
  refine KM.ofH G (by decide) (Nat.le_of_ble_eq_true rfl) (Nat.le_of_ble_eq_true rfl) ?_
  intro p e s m args below meth c ls Q hQ X ht hL hW hS
  obtain ⟨hx, hb, hr, hml, hown, hlocks, hts, hq, hK, hI⟩ := X
  replace hL := hL.nrm (l' := [some _, some _, some _, some _, some _, some _, none]) rfl
  refine lv_aload hx hb dL_lay_0 (hL.at 5 rfl) ?_
  refine lv_iconst (v := 0) hx hb dL_lay_2 (by decide) ?_
  refine lv_aload_n hx hb dL_lay_3 rfl (hL.at 0 rfl) ?_
  refine lv_iload_n hx hb dL_lay_4 rfl (hL.at 1 rfl) ?_
  refine lv_iload_n hx hb dL_lay_5 rfl (hL.at 2 rfl) ?_
  refine lv_iload_n hx hb dL_lay_6 rfl (hL.at 3 rfl) ?_
  refine lv_iload hx hb dL_lay_7 (hL.at 4 rfl) ?_
  refine k_callVX (q := (RX7, TX7, 15)) hx hb hml hown hts hK hI hS hW hL.1 h1c rfl (hM) (m5 (gT_in q816 rfl) (gT_in q414 rfl) (gT_in q415 rfl) (gT_in q55 rfl) (gT_in q416 rfl)) rfl (show kpar yX7_lay 4 from ⟨by decide, by decide, by decide +kernel⟩) ⟨by decide, by decide⟩ (by show _ ≤ (5 : Nat); omega) (by show _ ≤ (30 : Nat); omega) rfl (by first | decide | exact Nat.le_of_ble_eq_true rfl) dL_lay_9 (fun E ce q9 H locs hp hW hS hce hcv hcl => ?_) (fun v ad9 ct9 H locs hp hW hS => ?_)
  · rcases hPX E hp with rfl | rfl
    · refine k_catch (own := "TailorBenchLaw") (E := eIdx) hown ht [] [(0, 13, 20, 13)] (0, 13, 16, 21) rfl (fun z hz => nomatch hz) (by decide) (by decide) (hq _ q501 rfl) (hq _ q302 rfl) hce hcv hcl ?_
      refine k_ast hx hb hL (i := 6) (by decide) dL_lay_16 (fun ls hL => ?_)
      refine lv_iconst (v := 1) hx hb dL_lay_18 (by decide) ?_
      rw [hQ]
      exact k_iret hx hb hr hlocks hW hS (by omega) (by omega) dL_lay_19 (Or.inr ⟨Or.inl ⟨hp, rfl⟩, rfl, rfl⟩)
    · refine k_catch (own := "TailorBenchLaw") (E := eArg) hown ht [(0, 13, 16, 21)] [] (0, 13, 20, 13) rfl (fun z hz => by
        simp only [List.mem_cons, List.not_mem_nil, or_false] at hz
        subst hz
        exact ⟨by decide, _, hq _ q501 rfl, va_Nc.moved hI.1.alike N3.2.1⟩) (by decide) (by decide) (hq _ q442 rfl) (hq _ q222 rfl) hce hcv hcl ?_
      refine k_ast hx hb hL (i := 6) (by decide) dL_lay_20 (fun ls hL => ?_)
      refine lv_iconst (v := 2) hx hb dL_lay_22 (by decide) ?_
      rw [hQ]
      exact k_iret hx hb hr hlocks hW hS (by omega) (by omega) dL_lay_23 (Or.inr ⟨Or.inr (⟨hp, rfl⟩), rfl, rfl⟩)
  obtain ⟨a, rfl⟩ := hRt _ _ _ hp
  obtain ⟨hO1, hO2⟩ := hO _ _ _ hp
  rw [← hO1]
  refine k_dast hx hb hK hW hS hO2 (by omega) 0 (by omega) (by omega) rfl dL_lay_12 (fun H locs hW hS => ?_)
  refine lv_goto (tgt := 24) hx hb dL_lay_13 (by decide) ?_
  refine lv_iconst (v := 0) hx hb dL_lay_24 (by decide) ?_
  rw [hQ]
  exact k_iret hx hb hr hlocks hW hS (by omega) (by omega) dL_lay_25 (Or.inl ⟨a, _, hp, rfl, rfl⟩)

set_option maxHeartbeats 2000000 in
set_option maxRecDepth 100000 in
/-- TailorBenchLaw.best  -/
theorem w_best {l : Launch} {D : va_G} {cy : Nat → ClassId} {sad : Nat → Nat} {em : Nat} {s0 : State} {a0 : Array Value} (G : kG kSTR l D cy sad em s0 a0) {ad : Nat → Nat} {ct : Nat → Option va_E} (N3 : kN3 s0) {Post : kPT} {PX : String → Prop} {x1 : Int32} (hM : KX l yX7_best [.code yX7_best prog_1_method_26_code 10 (some .int)] 7 120 2 12 [.ref (ad 1), .int x1] D s0 ad ct Post PX) (hPX : ∀ E, PX E → E = eIdx) (hRt : ∀ v ad' ct', Post v ad' ct' → ∃ a : Int32, v = some (.int a)) {fo : Nat → Int64} (hO : ∀ v ad' ct', Post v ad' ct' → ad' 90 = ad 90 ∧ ct' 90 = some (.inl (cy 3, 1, aL fo))) {c1 : List Value} (h1c : ct 1 = some (.inr (9, c1))) :
    KM l yL_best [.codeWith yL_best method_24_code 4 (some .int) [(0, 9, 12, 21)]] 8 149 2 12 [.ref (ad 1), .int x1, .ref (ad 90)] D s0 ad ct (fun v ad' ct' => (∃ (a : Int32) (ct1 : Nat → Option va_E), Post (some (.int a)) ad' ct1 ∧ v = some (.int 0) ∧ ct' = up ct1 90 (.inl (cy 3, 1, aL (vp_updL fo 0 a.toInt64)))) ∨ (((PX eIdx ∧ v = some (.int 1))) ∧ ad' = ad ∧ ct' = ct)) := by
  refine KM.ofH G (by decide) (Nat.le_of_ble_eq_true rfl) (Nat.le_of_ble_eq_true rfl) ?_
  intro p e s m args below meth c ls Q hQ X ht hL hW hS
  obtain ⟨hx, hb, hr, hml, hown, hlocks, hts, hq, hK, hI⟩ := X
  replace hL := hL.nrm (l' := [some _, some _, some _, none]) rfl
  refine lv_aload_n hx hb dL_best_0 rfl (hL.at 2 rfl) ?_
  refine lv_iconst (v := 0) hx hb dL_best_1 (by decide) ?_
  refine lv_aload_n hx hb dL_best_2 rfl (hL.at 0 rfl) ?_
  refine lv_iload_n hx hb dL_best_3 rfl (hL.at 1 rfl) ?_
  refine k_callVX (q := (RX7, TX7, 15)) hx hb hml hown hts hK hI hS hW hL.1 h1c rfl (hM) (m5 (gT_in q820 rfl) (gT_in q359 rfl) (gT_in q360 rfl) (gT_in q55 rfl) (gT_in q361 rfl)) rfl (show kpar yX7_best 1 from ⟨by decide, by decide, by decide +kernel⟩) ⟨by decide, by decide⟩ (by show _ ≤ (2 : Nat); omega) (by show _ ≤ (12 : Nat); omega) rfl (by first | decide | exact Nat.le_of_ble_eq_true rfl) dL_best_4 (fun E ce q9 H locs hp hW hS hce hcv hcl => ?_) (fun v ad4 ct4 H locs hp hW hS => ?_)
  · have hE9 := hPX E hp
    subst hE9
    refine k_catch (own := "TailorBenchLaw") (E := eIdx) hown ht [] [] (0, 9, 12, 21) rfl (fun z hz => nomatch hz) (by decide) (by decide) (hq _ q501 rfl) (hq _ q302 rfl) hce hcv hcl ?_
    refine k_ast_n hx hb hL (i := 3) rfl (by decide) dL_best_12 (fun ls hL => ?_)
    refine lv_iconst (v := 1) hx hb dL_best_13 (by decide) ?_
    rw [hQ]
    exact k_iret hx hb hr hlocks hW hS (by omega) (by omega) dL_best_14 (Or.inr ⟨⟨hp, rfl⟩, rfl, rfl⟩)
  obtain ⟨a, rfl⟩ := hRt _ _ _ hp
  obtain ⟨hO1, hO2⟩ := hO _ _ _ hp
  rw [← hO1]
  refine lv_i2l hx hb dL_best_7 rfl ?_
  refine k_last hx hb hK hW hS hO2 (by omega) 0 (by omega) (by omega) rfl dL_best_8 (fun H locs hW hS => ?_)
  refine lv_goto (tgt := 15) hx hb dL_best_9 (by decide) ?_
  refine lv_iconst (v := 0) hx hb dL_best_15 (by decide) ?_
  rw [hQ]
  exact k_iret hx hb hr hlocks hW hS (by omega) (by omega) dL_best_16 (Or.inl ⟨a, _, hp, rfl, rfl⟩)

set_option maxHeartbeats 2000000 in
set_option maxRecDepth 100000 in
/-- TailorBenchLaw.mate  -/
theorem w_mate {l : Launch} {D : va_G} {cy : Nat → ClassId} {sad : Nat → Nat} {em : Nat} {s0 : State} {a0 : Array Value} (G : kG kSTR l D cy sad em s0 a0) {ad : Nat → Nat} {ct : Nat → Option va_E} (N3 : kN3 s0) {Post : kPT} {PX : String → Prop} {x1 : Int32} {x2 : Int32} (hM : KX l yX7_mate [.code yX7_mate prog_1_method_27_code 11 (some .int)] 7 150 3 18 [.ref (ad 1), .int x1, .int x2] D s0 ad ct Post PX) (hPX : ∀ E, PX E → E = eIdx) (hRt : ∀ v ad' ct', Post v ad' ct' → ∃ a : Int32, v = some (.int a)) {fo : Nat → Int64} (hO : ∀ v ad' ct', Post v ad' ct' → ad' 90 = ad 90 ∧ ct' 90 = some (.inl (cy 3, 1, aL fo))) {c1 : List Value} (h1c : ct 1 = some (.inr (9, c1))) :
    KM l yL_mate [.codeWith yL_mate method_25_code 5 (some .int) [(0, 10, 13, 21)]] 8 180 3 18 [.ref (ad 1), .int x1, .int x2, .ref (ad 90)] D s0 ad ct (fun v ad' ct' => (∃ (a : Int32) (ct1 : Nat → Option va_E), Post (some (.int a)) ad' ct1 ∧ v = some (.int 0) ∧ ct' = up ct1 90 (.inl (cy 3, 1, aL (vp_updL fo 0 a.toInt64)))) ∨ (((PX eIdx ∧ v = some (.int 1))) ∧ ad' = ad ∧ ct' = ct)) := by
  refine KM.ofH G (by decide) (Nat.le_of_ble_eq_true rfl) (Nat.le_of_ble_eq_true rfl) ?_
  intro p e s m args below meth c ls Q hQ X ht hL hW hS
  obtain ⟨hx, hb, hr, hml, hown, hlocks, hts, hq, hK, hI⟩ := X
  replace hL := hL.nrm (l' := [some _, some _, some _, some _, none]) rfl
  refine lv_aload_n hx hb dL_mate_0 rfl (hL.at 3 rfl) ?_
  refine lv_iconst (v := 0) hx hb dL_mate_1 (by decide) ?_
  refine lv_aload_n hx hb dL_mate_2 rfl (hL.at 0 rfl) ?_
  refine lv_iload_n hx hb dL_mate_3 rfl (hL.at 1 rfl) ?_
  refine lv_iload_n hx hb dL_mate_4 rfl (hL.at 2 rfl) ?_
  refine k_callVX (q := (RX7, TX7, 15)) hx hb hml hown hts hK hI hS hW hL.1 h1c rfl (hM) (m5 (gT_in q824 rfl) (gT_in q825 rfl) (gT_in q826 rfl) (gT_in q55 rfl) (gT_in q827 rfl)) rfl (show kpar yX7_mate 2 from ⟨by decide, by decide, by decide +kernel⟩) ⟨by decide, by decide⟩ (by show _ ≤ (3 : Nat); omega) (by show _ ≤ (18 : Nat); omega) rfl (by first | decide | exact Nat.le_of_ble_eq_true rfl) dL_mate_5 (fun E ce q9 H locs hp hW hS hce hcv hcl => ?_) (fun v ad5 ct5 H locs hp hW hS => ?_)
  · have hE9 := hPX E hp
    subst hE9
    refine k_catch (own := "TailorBenchLaw") (E := eIdx) hown ht [] [] (0, 10, 13, 21) rfl (fun z hz => nomatch hz) (by decide) (by decide) (hq _ q501 rfl) (hq _ q302 rfl) hce hcv hcl ?_
    refine k_ast hx hb hL (i := 4) (by decide) dL_mate_13 (fun ls hL => ?_)
    refine lv_iconst (v := 1) hx hb dL_mate_15 (by decide) ?_
    rw [hQ]
    exact k_iret hx hb hr hlocks hW hS (by omega) (by omega) dL_mate_16 (Or.inr ⟨⟨hp, rfl⟩, rfl, rfl⟩)
  obtain ⟨a, rfl⟩ := hRt _ _ _ hp
  obtain ⟨hO1, hO2⟩ := hO _ _ _ hp
  rw [← hO1]
  refine lv_i2l hx hb dL_mate_8 rfl ?_
  refine k_last hx hb hK hW hS hO2 (by omega) 0 (by omega) (by omega) rfl dL_mate_9 (fun H locs hW hS => ?_)
  refine lv_goto (tgt := 17) hx hb dL_mate_10 (by decide) ?_
  refine lv_iconst (v := 0) hx hb dL_mate_17 (by decide) ?_
  rw [hQ]
  exact k_iret hx hb hr hlocks hW hS (by omega) (by omega) dL_mate_18 (Or.inl ⟨a, _, hp, rfl, rfl⟩)

set_option maxHeartbeats 2000000 in
set_option maxRecDepth 100000 in
/-- TailorBenchLaw.soonest  -/
theorem w_soonest {l : Launch} {D : va_G} {cy : Nat → ClassId} {sad : Nat → Nat} {em : Nat} {s0 : State} {a0 : Array Value} (G : kG kSTR l D cy sad em s0 a0) {ad : Nat → Nat} {ct : Nat → Option va_E} (N3 : kN3 s0) {Post : kPT} {PX : String → Prop} {x1 : Int32} (hM : KX l yX7_soonest [.code yX7_soonest prog_1_method_28_code 9 (some .int)] 7 120 2 12 [.ref (ad 1), .int x1] D s0 ad ct Post PX) (hPX : ∀ E, PX E → E = eIdx) (hRt : ∀ v ad' ct', Post v ad' ct' → ∃ a : Int32, v = some (.int a)) {fo : Nat → Int64} (hO : ∀ v ad' ct', Post v ad' ct' → ad' 90 = ad 90 ∧ ct' 90 = some (.inl (cy 3, 1, aL fo))) {c1 : List Value} (h1c : ct 1 = some (.inr (9, c1))) :
    KM l yL_soonest [.codeWith yL_soonest method_26_code 4 (some .int) [(0, 9, 12, 21)]] 8 148 2 12 [.ref (ad 1), .int x1, .ref (ad 90)] D s0 ad ct (fun v ad' ct' => (∃ (a : Int32) (ct1 : Nat → Option va_E), Post (some (.int a)) ad' ct1 ∧ v = some (.int 0) ∧ ct' = up ct1 90 (.inl (cy 3, 1, aL (vp_updL fo 0 a.toInt64)))) ∨ (((PX eIdx ∧ v = some (.int 1))) ∧ ad' = ad ∧ ct' = ct)) := by
  refine KM.ofH G (by decide) (Nat.le_of_ble_eq_true rfl) (Nat.le_of_ble_eq_true rfl) ?_
  intro p e s m args below meth c ls Q hQ X ht hL hW hS
  obtain ⟨hx, hb, hr, hml, hown, hlocks, hts, hq, hK, hI⟩ := X
  replace hL := hL.nrm (l' := [some _, some _, some _, none]) rfl
  refine lv_aload_n hx hb dL_soonest_0 rfl (hL.at 2 rfl) ?_
  refine lv_iconst (v := 0) hx hb dL_soonest_1 (by decide) ?_
  refine lv_aload_n hx hb dL_soonest_2 rfl (hL.at 0 rfl) ?_
  refine lv_iload_n hx hb dL_soonest_3 rfl (hL.at 1 rfl) ?_
  refine k_callVX (q := (RX7, TX7, 15)) hx hb hml hown hts hK hI hS hW hL.1 h1c rfl (hM) (m5 (gT_in q835 rfl) (gT_in q405 rfl) (gT_in q406 rfl) (gT_in q55 rfl) (gT_in q407 rfl)) rfl (show kpar yX7_soonest 1 from ⟨by decide, by decide, by decide +kernel⟩) ⟨by decide, by decide⟩ (by show _ ≤ (2 : Nat); omega) (by show _ ≤ (12 : Nat); omega) rfl (by first | decide | exact Nat.le_of_ble_eq_true rfl) dL_soonest_4 (fun E ce q9 H locs hp hW hS hce hcv hcl => ?_) (fun v ad4 ct4 H locs hp hW hS => ?_)
  · have hE9 := hPX E hp
    subst hE9
    refine k_catch (own := "TailorBenchLaw") (E := eIdx) hown ht [] [] (0, 9, 12, 21) rfl (fun z hz => nomatch hz) (by decide) (by decide) (hq _ q501 rfl) (hq _ q302 rfl) hce hcv hcl ?_
    refine k_ast_n hx hb hL (i := 3) rfl (by decide) dL_soonest_12 (fun ls hL => ?_)
    refine lv_iconst (v := 1) hx hb dL_soonest_13 (by decide) ?_
    rw [hQ]
    exact k_iret hx hb hr hlocks hW hS (by omega) (by omega) dL_soonest_14 (Or.inr ⟨⟨hp, rfl⟩, rfl, rfl⟩)
  obtain ⟨a, rfl⟩ := hRt _ _ _ hp
  obtain ⟨hO1, hO2⟩ := hO _ _ _ hp
  rw [← hO1]
  refine lv_i2l hx hb dL_soonest_7 rfl ?_
  refine k_last hx hb hK hW hS hO2 (by omega) 0 (by omega) (by omega) rfl dL_soonest_8 (fun H locs hW hS => ?_)
  refine lv_goto (tgt := 15) hx hb dL_soonest_9 (by decide) ?_
  refine lv_iconst (v := 0) hx hb dL_soonest_15 (by decide) ?_
  rw [hQ]
  exact k_iret hx hb hr hlocks hW hS (by omega) (by omega) dL_soonest_16 (Or.inl ⟨a, _, hp, rfl, rfl⟩)
