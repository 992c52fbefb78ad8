/-! who is at a number -/
set_option maxHeartbeats 4000000 in
set_option maxRecDepth 100000 in
/-- TailorBench.clothAt  -/
theorem c_clothAt {l : Launch} {D : va_G} {cy : Nat → ClassId} {sad : Nat → Nat} {em : Nat} {s0 : State} {a0 : Array Value} (G : kG kSTR l D cy sad em s0 a0) {ad : Nat → Nat} {ct : Nat → Option va_E} {M : tM} (hm : RepC cy ad ct M) (ho : okM M) (x : Int32) :
    KX l yX7_clothAt [.code yX7_clothAt prog_1_method_30_code 2 (some (.object "TailorBench$Cloth"))] 6 90 1 6 [.ref (ad 1), .int x] D s0 ad ct (fun v ad' ct' => ∃ j, j < mC M ∧ x = nI j ∧ v = some (.ref (ad (16 + j))) ∧ ad' = ad ∧ ct' = ct) (fun E => E = eIdx ∧ ¬ kIn x (mC M)) := by
  refine KX.of G (by decide) (Nat.le_of_ble_eq_true rfl) (Nat.le_of_ble_eq_true rfl) ?_
  intro p e s m args below meth c ls Q hQ X hin hL hW hS
  obtain ⟨hx, hb, hr, hml, hown, hlocks, hts, hq, hK, hI⟩ := X
  obtain ⟨h1, ⟨ha2, ha3, ha4, ha5, ha6⟩, hcl, hpe, hst, hsa, hpc, hha, hod, hbo⟩ := hm
  obtain ⟨⟨hb1, hb2, hb3, hb4, hb5⟩, hk1, hk2, hk3, hk4, hk5⟩ := ho
  refine lv_iload_n hx hb dX7_clothAt_0 rfl (hL.at 1 rfl) ?_
  refine lv_if_lt (tgt := 12) hx hb dX7_clothAt_1 (by decide) (fun c1 => ?_) (fun c1 => ?_)
  · try dsimp only at c1
    rw [hQ]
    exact k_throwW G hx hb hlocks (names := ["java/lang/RuntimeException", "java/lang/Exception"]) hown hts hq hI (by decide) (by decide) (gT_in q300 rfl) (gT_in q72 rfl) 1 rfl (fun w hw => hq w (at_111 w hw).1 (at_111 w hw).2) ot_111 hW hS (hL.1.trans hml.symm) hin dX7_clothAt_12 dX7_clothAt_15 dX7_clothAt_16 dX7_clothAt_19 dX7_clothAt_22 (by decide) (by decide) (by show _ ≤ (1 : Nat); omega) (by show _ ≤ (6 : Nat); omega) (by omega) (by omega) (⟨rfl, by first | exact kIn_neg c1 (by omega) | exact kIn_ge c9 (by omega)⟩)
  · try dsimp only at c1
    refine lv_iload_n hx hb dX7_clothAt_4 rfl (hL.at 1 rfl) ?_
    refine lv_aload_n hx hb dX7_clothAt_5 rfl (hL.at 0 rfl) ?_
    refine k_get (ci := 9) (C := RX7) (T := TX7) (N := 15) hx hb hts w_RX7 hown hK hW (by first | assumption | exact up_s | (rw [up_n (by omega)]; first | assumption | exact up_s | (rw [up_n (by omega)]; first | assumption | exact up_s | (rw [up_n (by omega)]; first | assumption | exact up_s | (rw [up_n (by omega)]; first | assumption | exact up_s | (rw [up_n (by omega)]; first | assumption | exact up_s)))))) rfl 6 (by decide) (hq _ q155 rfl) (fun _ h9 => h9) (by rfl) dX7_clothAt_6 ?_
    refine lv_icmp_lt (tgt := 23) hx hb dX7_clothAt_9 (by decide) (fun c9 => ?_) (fun c9 => ?_)
    · try dsimp only at c9
      obtain ⟨j, hj, hxj⟩ := kIn_of c1 c9 (by omega)
      subst hxj
      refine lv_aload_n hx hb dX7_clothAt_23 rfl (hL.at 0 rfl) ?_
      refine k_get (ci := 9) (C := RX7) (T := TX7) (N := 15) hx hb hts w_RX7 hown hK hW (by first | assumption | exact up_s | (rw [up_n (by omega)]; first | assumption | exact up_s | (rw [up_n (by omega)]; first | assumption | exact up_s | (rw [up_n (by omega)]; first | assumption | exact up_s | (rw [up_n (by omega)]; first | assumption | exact up_s | (rw [up_n (by omega)]; first | assumption | exact up_s)))))) rfl 0 (by decide) (hq _ q149 rfl) (fun _ h9 => h9) (by rfl) dX7_clothAt_24 ?_
      refine lv_iload_n hx hb dX7_clothAt_27 rfl (hL.at 1 rfl) ?_
      refine k_aald hx hb hK hW 4 (by first | assumption | exact up_s | (rw [up_n (by omega)]; first | assumption | exact up_s | (rw [up_n (by omega)]; first | assumption | exact up_s | (rw [up_n (by omega)]; first | assumption | exact up_s | (rw [up_n (by omega)]; first | assumption | exact up_s | (rw [up_n (by omega)]; first | assumption | exact up_s)))))) rfl j (by omega) (by omega) rfl (kqs_at hj) dX7_clothAt_28 ?_
      rw [hQ]
      exact vx_ret (k_aret hx hb hr (Or.inl ⟨_, rfl⟩) hlocks (Or.inr ⟨_, rfl⟩) hW hS (by omega) (by omega) dX7_clothAt_29 (⟨j, hj, rfl, rfl, rfl, rfl⟩))
    · try dsimp only at c9
      rw [hQ]
      exact k_throwW G hx hb hlocks (names := ["java/lang/RuntimeException", "java/lang/Exception"]) hown hts hq hI (by decide) (by decide) (gT_in q300 rfl) (gT_in q72 rfl) 1 rfl (fun w hw => hq w (at_111 w hw).1 (at_111 w hw).2) ot_111 hW hS (hL.1.trans hml.symm) hin dX7_clothAt_12 dX7_clothAt_15 dX7_clothAt_16 dX7_clothAt_19 dX7_clothAt_22 (by decide) (by decide) (by show _ ≤ (1 : Nat); omega) (by show _ ≤ (6 : Nat); omega) (by omega) (by omega) (⟨rfl, by first | exact kIn_neg c1 (by omega) | exact kIn_ge c9 (by omega)⟩)

set_option maxHeartbeats 4000000 in
set_option maxRecDepth 100000 in
/-- TailorBench.clothAt  -/
theorem c_clothAtM {l : Launch} {D : va_G} {cy : Nat → ClassId} {sad : Nat → Nat} {em : Nat} {s0 : State} {a0 : Array Value} (G : kG kSTR l D cy sad em s0 a0) {ad : Nat → Nat} {ct : Nat → Option va_E} {M : tM} (hm : RepC cy ad ct M) (ho : okM M) {x : Int32} (hin0 : kIn x (mC M)) :
    KM l yX7_clothAt [.code yX7_clothAt prog_1_method_30_code 2 (some (.object "TailorBench$Cloth"))] 0 0 0 0 [.ref (ad 1), .int x] D s0 ad ct (fun v ad' ct' => ∃ j, j < mC M ∧ x = nI j ∧ v = some (.ref (ad (16 + j))) ∧ ad' = ad ∧ ct' = ct) := by
  refine KM.of G (by decide) (Nat.le_of_ble_eq_true rfl) (Nat.le_of_ble_eq_true rfl) ?_
  intro p e s m args below meth c ls Q hQ X hin hL hW hS
  obtain ⟨hx, hb, hr, hml, hown, hlocks, hts, hq, hK, hI⟩ := X
  obtain ⟨h1, ⟨ha2, ha3, ha4, ha5, ha6⟩, hcl, hpe, hst, hsa, hpc, hha, hod, hbo⟩ := hm
  obtain ⟨⟨hb1, hb2, hb3, hb4, hb5⟩, hk1, hk2, hk3, hk4, hk5⟩ := ho
  refine lv_iload_n hx hb dX7_clothAt_0 rfl (hL.at 1 rfl) ?_
  refine lv_if_lt (tgt := 12) hx hb dX7_clothAt_1 (by decide) (fun c1 => ?_) (fun c1 => ?_)
  · try dsimp only at c1
    exact absurd c1 (kIn_pos hin0 (by omega))
  · try dsimp only at c1
    refine lv_iload_n hx hb dX7_clothAt_4 rfl (hL.at 1 rfl) ?_
    refine lv_aload_n hx hb dX7_clothAt_5 rfl (hL.at 0 rfl) ?_
    refine k_get (ci := 9) (C := RX7) (T := TX7) (N := 15) hx hb hts w_RX7 hown hK hW (by first | assumption | exact up_s | (rw [up_n (by omega)]; first | assumption | exact up_s | (rw [up_n (by omega)]; first | assumption | exact up_s | (rw [up_n (by omega)]; first | assumption | exact up_s | (rw [up_n (by omega)]; first | assumption | exact up_s | (rw [up_n (by omega)]; first | assumption | exact up_s)))))) rfl 6 (by decide) (hq _ q155 rfl) (fun _ h9 => h9) (by rfl) dX7_clothAt_6 ?_
    refine lv_icmp_lt (tgt := 23) hx hb dX7_clothAt_9 (by decide) (fun c9 => ?_) (fun c9 => ?_)
    · try dsimp only at c9
      obtain ⟨j, hj, hxj⟩ := kIn_of c1 c9 (by omega)
      subst hxj
      refine lv_aload_n hx hb dX7_clothAt_23 rfl (hL.at 0 rfl) ?_
      refine k_get (ci := 9) (C := RX7) (T := TX7) (N := 15) hx hb hts w_RX7 hown hK hW (by first | assumption | exact up_s | (rw [up_n (by omega)]; first | assumption | exact up_s | (rw [up_n (by omega)]; first | assumption | exact up_s | (rw [up_n (by omega)]; first | assumption | exact up_s | (rw [up_n (by omega)]; first | assumption | exact up_s | (rw [up_n (by omega)]; first | assumption | exact up_s)))))) rfl 0 (by decide) (hq _ q149 rfl) (fun _ h9 => h9) (by rfl) dX7_clothAt_24 ?_
      refine lv_iload_n hx hb dX7_clothAt_27 rfl (hL.at 1 rfl) ?_
      refine k_aald hx hb hK hW 4 (by first | assumption | exact up_s | (rw [up_n (by omega)]; first | assumption | exact up_s | (rw [up_n (by omega)]; first | assumption | exact up_s | (rw [up_n (by omega)]; first | assumption | exact up_s | (rw [up_n (by omega)]; first | assumption | exact up_s | (rw [up_n (by omega)]; first | assumption | exact up_s)))))) rfl j (by omega) (by omega) rfl (kqs_at hj) dX7_clothAt_28 ?_
      rw [hQ]
      exact k_aret hx hb hr (Or.inl ⟨_, rfl⟩) hlocks (Or.inr ⟨_, rfl⟩) hW hS (by omega) (by omega) dX7_clothAt_29 (⟨j, hj, rfl, rfl, rfl, rfl⟩)
    · try dsimp only at c9
      exact absurd (kIn_lt hin0 (by omega)) c9

set_option maxHeartbeats 4000000 in
set_option maxRecDepth 100000 in
/-- TailorBench.personAt  -/
theorem c_personAt {l : Launch} {D : va_G} {cy : Nat → ClassId} {sad : Nat → Nat} {em : Nat} {s0 : State} {a0 : Array Value} (G : kG kSTR l D cy sad em s0 a0) {ad : Nat → Nat} {ct : Nat → Option va_E} {M : tM} (hm : RepC cy ad ct M) (ho : okM M) (x : Int32) :
    KX l yX7_personAt [.code yX7_personAt prog_1_method_31_code 2 (some (.object "TailorBench$Person"))] 6 90 1 6 [.ref (ad 1), .int x] D s0 ad ct (fun v ad' ct' => ∃ j, j < mP M ∧ x = nI j ∧ v = some (.ref (ad (24 + j))) ∧ ad' = ad ∧ ct' = ct) (fun E => E = eIdx ∧ ¬ kIn x (mP M)) := by
  refine KX.of G (by decide) (Nat.le_of_ble_eq_true rfl) (Nat.le_of_ble_eq_true rfl) ?_
  intro p e s m args below meth c ls Q hQ X hin hL hW hS
  obtain ⟨hx, hb, hr, hml, hown, hlocks, hts, hq, hK, hI⟩ := X
  obtain ⟨h1, ⟨ha2, ha3, ha4, ha5, ha6⟩, hcl, hpe, hst, hsa, hpc, hha, hod, hbo⟩ := hm
  obtain ⟨⟨hb1, hb2, hb3, hb4, hb5⟩, hk1, hk2, hk3, hk4, hk5⟩ := ho
  refine lv_iload_n hx hb dX7_personAt_0 rfl (hL.at 1 rfl) ?_
  refine lv_if_lt (tgt := 12) hx hb dX7_personAt_1 (by decide) (fun c1 => ?_) (fun c1 => ?_)
  · try dsimp only at c1
    rw [hQ]
    exact k_throwW G hx hb hlocks (names := ["java/lang/RuntimeException", "java/lang/Exception"]) hown hts hq hI (by decide) (by decide) (gT_in q300 rfl) (gT_in q72 rfl) 11 rfl (fun w hw => hq w (at_111 w hw).1 (at_111 w hw).2) ot_111 hW hS (hL.1.trans hml.symm) hin dX7_personAt_12 dX7_personAt_15 dX7_personAt_16 dX7_personAt_19 dX7_personAt_22 (by decide) (by decide) (by show _ ≤ (1 : Nat); omega) (by show _ ≤ (6 : Nat); omega) (by omega) (by omega) (⟨rfl, by first | exact kIn_neg c1 (by omega) | exact kIn_ge c9 (by omega)⟩)
  · try dsimp only at c1
    refine lv_iload_n hx hb dX7_personAt_4 rfl (hL.at 1 rfl) ?_
    refine lv_aload_n hx hb dX7_personAt_5 rfl (hL.at 0 rfl) ?_
    refine k_get (ci := 9) (C := RX7) (T := TX7) (N := 15) hx hb hts w_RX7 hown hK hW (by first | assumption | exact up_s | (rw [up_n (by omega)]; first | assumption | exact up_s | (rw [up_n (by omega)]; first | assumption | exact up_s | (rw [up_n (by omega)]; first | assumption | exact up_s | (rw [up_n (by omega)]; first | assumption | exact up_s | (rw [up_n (by omega)]; first | assumption | exact up_s)))))) rfl 7 (by decide) (hq _ q156 rfl) (fun _ h9 => h9) (by rfl) dX7_personAt_6 ?_
    refine lv_icmp_lt (tgt := 23) hx hb dX7_personAt_9 (by decide) (fun c9 => ?_) (fun c9 => ?_)
    · try dsimp only at c9
      obtain ⟨j, hj, hxj⟩ := kIn_of c1 c9 (by omega)
      subst hxj
      refine lv_aload_n hx hb dX7_personAt_23 rfl (hL.at 0 rfl) ?_
      refine k_get (ci := 9) (C := RX7) (T := TX7) (N := 15) hx hb hts w_RX7 hown hK hW (by first | assumption | exact up_s | (rw [up_n (by omega)]; first | assumption | exact up_s | (rw [up_n (by omega)]; first | assumption | exact up_s | (rw [up_n (by omega)]; first | assumption | exact up_s | (rw [up_n (by omega)]; first | assumption | exact up_s | (rw [up_n (by omega)]; first | assumption | exact up_s)))))) rfl 1 (by decide) (hq _ q150 rfl) (fun _ h9 => h9) (by rfl) dX7_personAt_24 ?_
      refine lv_iload_n hx hb dX7_personAt_27 rfl (hL.at 1 rfl) ?_
      refine k_aald hx hb hK hW 5 (by first | assumption | exact up_s | (rw [up_n (by omega)]; first | assumption | exact up_s | (rw [up_n (by omega)]; first | assumption | exact up_s | (rw [up_n (by omega)]; first | assumption | exact up_s | (rw [up_n (by omega)]; first | assumption | exact up_s | (rw [up_n (by omega)]; first | assumption | exact up_s)))))) rfl j (by omega) (by omega) rfl (kqs_at hj) dX7_personAt_28 ?_
      rw [hQ]
      exact vx_ret (k_aret hx hb hr (Or.inl ⟨_, rfl⟩) hlocks (Or.inr ⟨_, rfl⟩) hW hS (by omega) (by omega) dX7_personAt_29 (⟨j, hj, rfl, rfl, rfl, rfl⟩))
    · try dsimp only at c9
      rw [hQ]
      exact k_throwW G hx hb hlocks (names := ["java/lang/RuntimeException", "java/lang/Exception"]) hown hts hq hI (by decide) (by decide) (gT_in q300 rfl) (gT_in q72 rfl) 11 rfl (fun w hw => hq w (at_111 w hw).1 (at_111 w hw).2) ot_111 hW hS (hL.1.trans hml.symm) hin dX7_personAt_12 dX7_personAt_15 dX7_personAt_16 dX7_personAt_19 dX7_personAt_22 (by decide) (by decide) (by show _ ≤ (1 : Nat); omega) (by show _ ≤ (6 : Nat); omega) (by omega) (by omega) (⟨rfl, by first | exact kIn_neg c1 (by omega) | exact kIn_ge c9 (by omega)⟩)

set_option maxHeartbeats 4000000 in
set_option maxRecDepth 100000 in
/-- TailorBench.personAt  -/
theorem c_personAtM {l : Launch} {D : va_G} {cy : Nat → ClassId} {sad : Nat → Nat} {em : Nat} {s0 : State} {a0 : Array Value} (G : kG kSTR l D cy sad em s0 a0) {ad : Nat → Nat} {ct : Nat → Option va_E} {M : tM} (hm : RepC cy ad ct M) (ho : okM M) {x : Int32} (hin0 : kIn x (mP M)) :
    KM l yX7_personAt [.code yX7_personAt prog_1_method_31_code 2 (some (.object "TailorBench$Person"))] 0 0 0 0 [.ref (ad 1), .int x] D s0 ad ct (fun v ad' ct' => ∃ j, j < mP M ∧ x = nI j ∧ v = some (.ref (ad (24 + j))) ∧ ad' = ad ∧ ct' = ct) := by
  refine KM.of G (by decide) (Nat.le_of_ble_eq_true rfl) (Nat.le_of_ble_eq_true rfl) ?_
  intro p e s m args below meth c ls Q hQ X hin hL hW hS
  obtain ⟨hx, hb, hr, hml, hown, hlocks, hts, hq, hK, hI⟩ := X
  obtain ⟨h1, ⟨ha2, ha3, ha4, ha5, ha6⟩, hcl, hpe, hst, hsa, hpc, hha, hod, hbo⟩ := hm
  obtain ⟨⟨hb1, hb2, hb3, hb4, hb5⟩, hk1, hk2, hk3, hk4, hk5⟩ := ho
  refine lv_iload_n hx hb dX7_personAt_0 rfl (hL.at 1 rfl) ?_
  refine lv_if_lt (tgt := 12) hx hb dX7_personAt_1 (by decide) (fun c1 => ?_) (fun c1 => ?_)
  · try dsimp only at c1
    exact absurd c1 (kIn_pos hin0 (by omega))
  · try dsimp only at c1
    refine lv_iload_n hx hb dX7_personAt_4 rfl (hL.at 1 rfl) ?_
    refine lv_aload_n hx hb dX7_personAt_5 rfl (hL.at 0 rfl) ?_
    refine k_get (ci := 9) (C := RX7) (T := TX7) (N := 15) hx hb hts w_RX7 hown hK hW (by first | assumption | exact up_s | (rw [up_n (by omega)]; first | assumption | exact up_s | (rw [up_n (by omega)]; first | assumption | exact up_s | (rw [up_n (by omega)]; first | assumption | exact up_s | (rw [up_n (by omega)]; first | assumption | exact up_s | (rw [up_n (by omega)]; first | assumption | exact up_s)))))) rfl 7 (by decide) (hq _ q156 rfl) (fun _ h9 => h9) (by rfl) dX7_personAt_6 ?_
    refine lv_icmp_lt (tgt := 23) hx hb dX7_personAt_9 (by decide) (fun c9 => ?_) (fun c9 => ?_)
    · try dsimp only at c9
      obtain ⟨j, hj, hxj⟩ := kIn_of c1 c9 (by omega)
      subst hxj
      refine lv_aload_n hx hb dX7_personAt_23 rfl (hL.at 0 rfl) ?_
      refine k_get (ci := 9) (C := RX7) (T := TX7) (N := 15) hx hb hts w_RX7 hown hK hW (by first | assumption | exact up_s | (rw [up_n (by omega)]; first | assumption | exact up_s | (rw [up_n (by omega)]; first | assumption | exact up_s | (rw [up_n (by omega)]; first | assumption | exact up_s | (rw [up_n (by omega)]; first | assumption | exact up_s | (rw [up_n (by omega)]; first | assumption | exact up_s)))))) rfl 1 (by decide) (hq _ q150 rfl) (fun _ h9 => h9) (by rfl) dX7_personAt_24 ?_
      refine lv_iload_n hx hb dX7_personAt_27 rfl (hL.at 1 rfl) ?_
      refine k_aald hx hb hK hW 5 (by first | assumption | exact up_s | (rw [up_n (by omega)]; first | assumption | exact up_s | (rw [up_n (by omega)]; first | assumption | exact up_s | (rw [up_n (by omega)]; first | assumption | exact up_s | (rw [up_n (by omega)]; first | assumption | exact up_s | (rw [up_n (by omega)]; first | assumption | exact up_s)))))) rfl j (by omega) (by omega) rfl (kqs_at hj) dX7_personAt_28 ?_
      rw [hQ]
      exact k_aret hx hb hr (Or.inl ⟨_, rfl⟩) hlocks (Or.inr ⟨_, rfl⟩) hW hS (by omega) (by omega) dX7_personAt_29 (⟨j, hj, rfl, rfl, rfl, rfl⟩)
    · try dsimp only at c9
      exact absurd (kIn_lt hin0 (by omega)) c9

set_option maxHeartbeats 4000000 in
set_option maxRecDepth 100000 in
/-- TailorBench.styleAt  -/
theorem c_styleAt {l : Launch} {D : va_G} {cy : Nat → ClassId} {sad : Nat → Nat} {em : Nat} {s0 : State} {a0 : Array Value} (G : kG kSTR l D cy sad em s0 a0) {ad : Nat → Nat} {ct : Nat → Option va_E} {M : tM} (hm : RepC cy ad ct M) (ho : okM M) (x : Int32) :
    KX l yX7_styleAt [.code yX7_styleAt prog_1_method_32_code 2 (some (.object "TailorBench$Style"))] 6 90 1 6 [.ref (ad 1), .int x] D s0 ad ct (fun v ad' ct' => ∃ j, j < mS M ∧ x = nI j ∧ v = some (.ref (ad (32 + j))) ∧ ad' = ad ∧ ct' = ct) (fun E => E = eIdx ∧ ¬ kIn x (mS M)) := by
  refine KX.of G (by decide) (Nat.le_of_ble_eq_true rfl) (Nat.le_of_ble_eq_true rfl) ?_
  intro p e s m args below meth c ls Q hQ X hin hL hW hS
  obtain ⟨hx, hb, hr, hml, hown, hlocks, hts, hq, hK, hI⟩ := X
  obtain ⟨h1, ⟨ha2, ha3, ha4, ha5, ha6⟩, hcl, hpe, hst, hsa, hpc, hha, hod, hbo⟩ := hm
  obtain ⟨⟨hb1, hb2, hb3, hb4, hb5⟩, hk1, hk2, hk3, hk4, hk5⟩ := ho
  refine lv_iload_n hx hb dX7_styleAt_0 rfl (hL.at 1 rfl) ?_
  refine lv_if_lt (tgt := 12) hx hb dX7_styleAt_1 (by decide) (fun c1 => ?_) (fun c1 => ?_)
  · try dsimp only at c1
    rw [hQ]
    exact k_throwW G hx hb hlocks (names := ["java/lang/RuntimeException", "java/lang/Exception"]) hown hts hq hI (by decide) (by decide) (gT_in q300 rfl) (gT_in q72 rfl) 14 rfl (fun w hw => hq w (at_111 w hw).1 (at_111 w hw).2) ot_111 hW hS (hL.1.trans hml.symm) hin dX7_styleAt_12 dX7_styleAt_15 dX7_styleAt_16 dX7_styleAt_19 dX7_styleAt_22 (by decide) (by decide) (by show _ ≤ (1 : Nat); omega) (by show _ ≤ (6 : Nat); omega) (by omega) (by omega) (⟨rfl, by first | exact kIn_neg c1 (by omega) | exact kIn_ge c9 (by omega)⟩)
  · try dsimp only at c1
    refine lv_iload_n hx hb dX7_styleAt_4 rfl (hL.at 1 rfl) ?_
    refine lv_aload_n hx hb dX7_styleAt_5 rfl (hL.at 0 rfl) ?_
    refine k_get (ci := 9) (C := RX7) (T := TX7) (N := 15) hx hb hts w_RX7 hown hK hW (by first | assumption | exact up_s | (rw [up_n (by omega)]; first | assumption | exact up_s | (rw [up_n (by omega)]; first | assumption | exact up_s | (rw [up_n (by omega)]; first | assumption | exact up_s | (rw [up_n (by omega)]; first | assumption | exact up_s | (rw [up_n (by omega)]; first | assumption | exact up_s)))))) rfl 8 (by decide) (hq _ q157 rfl) (fun _ h9 => h9) (by rfl) dX7_styleAt_6 ?_
    refine lv_icmp_lt (tgt := 23) hx hb dX7_styleAt_9 (by decide) (fun c9 => ?_) (fun c9 => ?_)
    · try dsimp only at c9
      obtain ⟨j, hj, hxj⟩ := kIn_of c1 c9 (by omega)
      subst hxj
      refine lv_aload_n hx hb dX7_styleAt_23 rfl (hL.at 0 rfl) ?_
      refine k_get (ci := 9) (C := RX7) (T := TX7) (N := 15) hx hb hts w_RX7 hown hK hW (by first | assumption | exact up_s | (rw [up_n (by omega)]; first | assumption | exact up_s | (rw [up_n (by omega)]; first | assumption | exact up_s | (rw [up_n (by omega)]; first | assumption | exact up_s | (rw [up_n (by omega)]; first | assumption | exact up_s | (rw [up_n (by omega)]; first | assumption | exact up_s)))))) rfl 2 (by decide) (hq _ q151 rfl) (fun _ h9 => h9) (by rfl) dX7_styleAt_24 ?_
      refine lv_iload_n hx hb dX7_styleAt_27 rfl (hL.at 1 rfl) ?_
      refine k_aald hx hb hK hW 6 (by first | assumption | exact up_s | (rw [up_n (by omega)]; first | assumption | exact up_s | (rw [up_n (by omega)]; first | assumption | exact up_s | (rw [up_n (by omega)]; first | assumption | exact up_s | (rw [up_n (by omega)]; first | assumption | exact up_s | (rw [up_n (by omega)]; first | assumption | exact up_s)))))) rfl j (by omega) (by omega) rfl (kqs_at hj) dX7_styleAt_28 ?_
      rw [hQ]
      exact vx_ret (k_aret hx hb hr (Or.inl ⟨_, rfl⟩) hlocks (Or.inr ⟨_, rfl⟩) hW hS (by omega) (by omega) dX7_styleAt_29 (⟨j, hj, rfl, rfl, rfl, rfl⟩))
    · try dsimp only at c9
      rw [hQ]
      exact k_throwW G hx hb hlocks (names := ["java/lang/RuntimeException", "java/lang/Exception"]) hown hts hq hI (by decide) (by decide) (gT_in q300 rfl) (gT_in q72 rfl) 14 rfl (fun w hw => hq w (at_111 w hw).1 (at_111 w hw).2) ot_111 hW hS (hL.1.trans hml.symm) hin dX7_styleAt_12 dX7_styleAt_15 dX7_styleAt_16 dX7_styleAt_19 dX7_styleAt_22 (by decide) (by decide) (by show _ ≤ (1 : Nat); omega) (by show _ ≤ (6 : Nat); omega) (by omega) (by omega) (⟨rfl, by first | exact kIn_neg c1 (by omega) | exact kIn_ge c9 (by omega)⟩)

set_option maxHeartbeats 4000000 in
set_option maxRecDepth 100000 in
/-- TailorBench.styleAt  -/
theorem c_styleAtM {l : Launch} {D : va_G} {cy : Nat → ClassId} {sad : Nat → Nat} {em : Nat} {s0 : State} {a0 : Array Value} (G : kG kSTR l D cy sad em s0 a0) {ad : Nat → Nat} {ct : Nat → Option va_E} {M : tM} (hm : RepC cy ad ct M) (ho : okM M) {x : Int32} (hin0 : kIn x (mS M)) :
    KM l yX7_styleAt [.code yX7_styleAt prog_1_method_32_code 2 (some (.object "TailorBench$Style"))] 0 0 0 0 [.ref (ad 1), .int x] D s0 ad ct (fun v ad' ct' => ∃ j, j < mS M ∧ x = nI j ∧ v = some (.ref (ad (32 + j))) ∧ ad' = ad ∧ ct' = ct) := by
  refine KM.of G (by decide) (Nat.le_of_ble_eq_true rfl) (Nat.le_of_ble_eq_true rfl) ?_
  intro p e s m args below meth c ls Q hQ X hin hL hW hS
  obtain ⟨hx, hb, hr, hml, hown, hlocks, hts, hq, hK, hI⟩ := X
  obtain ⟨h1, ⟨ha2, ha3, ha4, ha5, ha6⟩, hcl, hpe, hst, hsa, hpc, hha, hod, hbo⟩ := hm
  obtain ⟨⟨hb1, hb2, hb3, hb4, hb5⟩, hk1, hk2, hk3, hk4, hk5⟩ := ho
  refine lv_iload_n hx hb dX7_styleAt_0 rfl (hL.at 1 rfl) ?_
  refine lv_if_lt (tgt := 12) hx hb dX7_styleAt_1 (by decide) (fun c1 => ?_) (fun c1 => ?_)
  · try dsimp only at c1
    exact absurd c1 (kIn_pos hin0 (by omega))
  · try dsimp only at c1
    refine lv_iload_n hx hb dX7_styleAt_4 rfl (hL.at 1 rfl) ?_
    refine lv_aload_n hx hb dX7_styleAt_5 rfl (hL.at 0 rfl) ?_
    refine k_get (ci := 9) (C := RX7) (T := TX7) (N := 15) hx hb hts w_RX7 hown hK hW (by first | assumption | exact up_s | (rw [up_n (by omega)]; first | assumption | exact up_s | (rw [up_n (by omega)]; first | assumption | exact up_s | (rw [up_n (by omega)]; first | assumption | exact up_s | (rw [up_n (by omega)]; first | assumption | exact up_s | (rw [up_n (by omega)]; first | assumption | exact up_s)))))) rfl 8 (by decide) (hq _ q157 rfl) (fun _ h9 => h9) (by rfl) dX7_styleAt_6 ?_
    refine lv_icmp_lt (tgt := 23) hx hb dX7_styleAt_9 (by decide) (fun c9 => ?_) (fun c9 => ?_)
    · try dsimp only at c9
      obtain ⟨j, hj, hxj⟩ := kIn_of c1 c9 (by omega)
      subst hxj
      refine lv_aload_n hx hb dX7_styleAt_23 rfl (hL.at 0 rfl) ?_
      refine k_get (ci := 9) (C := RX7) (T := TX7) (N := 15) hx hb hts w_RX7 hown hK hW (by first | assumption | exact up_s | (rw [up_n (by omega)]; first | assumption | exact up_s | (rw [up_n (by omega)]; first | assumption | exact up_s | (rw [up_n (by omega)]; first | assumption | exact up_s | (rw [up_n (by omega)]; first | assumption | exact up_s | (rw [up_n (by omega)]; first | assumption | exact up_s)))))) rfl 2 (by decide) (hq _ q151 rfl) (fun _ h9 => h9) (by rfl) dX7_styleAt_24 ?_
      refine lv_iload_n hx hb dX7_styleAt_27 rfl (hL.at 1 rfl) ?_
      refine k_aald hx hb hK hW 6 (by first | assumption | exact up_s | (rw [up_n (by omega)]; first | assumption | exact up_s | (rw [up_n (by omega)]; first | assumption | exact up_s | (rw [up_n (by omega)]; first | assumption | exact up_s | (rw [up_n (by omega)]; first | assumption | exact up_s | (rw [up_n (by omega)]; first | assumption | exact up_s)))))) rfl j (by omega) (by omega) rfl (kqs_at hj) dX7_styleAt_28 ?_
      rw [hQ]
      exact k_aret hx hb hr (Or.inl ⟨_, rfl⟩) hlocks (Or.inr ⟨_, rfl⟩) hW hS (by omega) (by omega) dX7_styleAt_29 (⟨j, hj, rfl, rfl, rfl, rfl⟩)
    · try dsimp only at c9
      exact absurd (kIn_lt hin0 (by omega)) c9

set_option maxHeartbeats 4000000 in
set_option maxRecDepth 100000 in
/-- TailorBench.handAt  -/
theorem c_handAt {l : Launch} {D : va_G} {cy : Nat → ClassId} {sad : Nat → Nat} {em : Nat} {s0 : State} {a0 : Array Value} (G : kG kSTR l D cy sad em s0 a0) {ad : Nat → Nat} {ct : Nat → Option va_E} {M : tM} (hm : RepC cy ad ct M) (ho : okM M) (x : Int32) :
    KX l yX7_handAt [.code yX7_handAt prog_1_method_33_code 2 (some (.object "TailorBench$Hand"))] 6 90 1 6 [.ref (ad 1), .int x] D s0 ad ct (fun v ad' ct' => ∃ j, j < mH M ∧ x = nI j ∧ v = some (.ref (ad (56 + j))) ∧ ad' = ad ∧ ct' = ct) (fun E => E = eIdx ∧ ¬ kIn x (mH M)) := by
  refine KX.of G (by decide) (Nat.le_of_ble_eq_true rfl) (Nat.le_of_ble_eq_true rfl) ?_
  intro p e s m args below meth c ls Q hQ X hin hL hW hS
  obtain ⟨hx, hb, hr, hml, hown, hlocks, hts, hq, hK, hI⟩ := X
  obtain ⟨h1, ⟨ha2, ha3, ha4, ha5, ha6⟩, hcl, hpe, hst, hsa, hpc, hha, hod, hbo⟩ := hm
  obtain ⟨⟨hb1, hb2, hb3, hb4, hb5⟩, hk1, hk2, hk3, hk4, hk5⟩ := ho
  refine lv_iload_n hx hb dX7_handAt_0 rfl (hL.at 1 rfl) ?_
  refine lv_if_lt (tgt := 12) hx hb dX7_handAt_1 (by decide) (fun c1 => ?_) (fun c1 => ?_)
  · try dsimp only at c1
    rw [hQ]
    exact k_throwW G hx hb hlocks (names := ["java/lang/RuntimeException", "java/lang/Exception"]) hown hts hq hI (by decide) (by decide) (gT_in q300 rfl) (gT_in q72 rfl) 6 rfl (fun w hw => hq w (at_111 w hw).1 (at_111 w hw).2) ot_111 hW hS (hL.1.trans hml.symm) hin dX7_handAt_12 dX7_handAt_15 dX7_handAt_16 dX7_handAt_19 dX7_handAt_22 (by decide) (by decide) (by show _ ≤ (1 : Nat); omega) (by show _ ≤ (6 : Nat); omega) (by omega) (by omega) (⟨rfl, by first | exact kIn_neg c1 (by omega) | exact kIn_ge c9 (by omega)⟩)
  · try dsimp only at c1
    refine lv_iload_n hx hb dX7_handAt_4 rfl (hL.at 1 rfl) ?_
    refine lv_aload_n hx hb dX7_handAt_5 rfl (hL.at 0 rfl) ?_
    refine k_get (ci := 9) (C := RX7) (T := TX7) (N := 15) hx hb hts w_RX7 hown hK hW (by first | assumption | exact up_s | (rw [up_n (by omega)]; first | assumption | exact up_s | (rw [up_n (by omega)]; first | assumption | exact up_s | (rw [up_n (by omega)]; first | assumption | exact up_s | (rw [up_n (by omega)]; first | assumption | exact up_s | (rw [up_n (by omega)]; first | assumption | exact up_s)))))) rfl 9 (by decide) (hq _ q158 rfl) (fun _ h9 => h9) (by rfl) dX7_handAt_6 ?_
    refine lv_icmp_lt (tgt := 23) hx hb dX7_handAt_9 (by decide) (fun c9 => ?_) (fun c9 => ?_)
    · try dsimp only at c9
      obtain ⟨j, hj, hxj⟩ := kIn_of c1 c9 (by omega)
      subst hxj
      refine lv_aload_n hx hb dX7_handAt_23 rfl (hL.at 0 rfl) ?_
      refine k_get (ci := 9) (C := RX7) (T := TX7) (N := 15) hx hb hts w_RX7 hown hK hW (by first | assumption | exact up_s | (rw [up_n (by omega)]; first | assumption | exact up_s | (rw [up_n (by omega)]; first | assumption | exact up_s | (rw [up_n (by omega)]; first | assumption | exact up_s | (rw [up_n (by omega)]; first | assumption | exact up_s | (rw [up_n (by omega)]; first | assumption | exact up_s)))))) rfl 3 (by decide) (hq _ q152 rfl) (fun _ h9 => h9) (by rfl) dX7_handAt_24 ?_
      refine lv_iload_n hx hb dX7_handAt_27 rfl (hL.at 1 rfl) ?_
      refine k_aald hx hb hK hW 7 (by first | assumption | exact up_s | (rw [up_n (by omega)]; first | assumption | exact up_s | (rw [up_n (by omega)]; first | assumption | exact up_s | (rw [up_n (by omega)]; first | assumption | exact up_s | (rw [up_n (by omega)]; first | assumption | exact up_s | (rw [up_n (by omega)]; first | assumption | exact up_s)))))) rfl j (by omega) (by omega) rfl (kqs_at hj) dX7_handAt_28 ?_
      rw [hQ]
      exact vx_ret (k_aret hx hb hr (Or.inl ⟨_, rfl⟩) hlocks (Or.inr ⟨_, rfl⟩) hW hS (by omega) (by omega) dX7_handAt_29 (⟨j, hj, rfl, rfl, rfl, rfl⟩))
    · try dsimp only at c9
      rw [hQ]
      exact k_throwW G hx hb hlocks (names := ["java/lang/RuntimeException", "java/lang/Exception"]) hown hts hq hI (by decide) (by decide) (gT_in q300 rfl) (gT_in q72 rfl) 6 rfl (fun w hw => hq w (at_111 w hw).1 (at_111 w hw).2) ot_111 hW hS (hL.1.trans hml.symm) hin dX7_handAt_12 dX7_handAt_15 dX7_handAt_16 dX7_handAt_19 dX7_handAt_22 (by decide) (by decide) (by show _ ≤ (1 : Nat); omega) (by show _ ≤ (6 : Nat); omega) (by omega) (by omega) (⟨rfl, by first | exact kIn_neg c1 (by omega) | exact kIn_ge c9 (by omega)⟩)

set_option maxHeartbeats 4000000 in
set_option maxRecDepth 100000 in
/-- TailorBench.handAt  -/
theorem c_handAtM {l : Launch} {D : va_G} {cy : Nat → ClassId} {sad : Nat → Nat} {em : Nat} {s0 : State} {a0 : Array Value} (G : kG kSTR l D cy sad em s0 a0) {ad : Nat → Nat} {ct : Nat → Option va_E} {M : tM} (hm : RepC cy ad ct M) (ho : okM M) {x : Int32} (hin0 : kIn x (mH M)) :
    KM l yX7_handAt [.code yX7_handAt prog_1_method_33_code 2 (some (.object "TailorBench$Hand"))] 0 0 0 0 [.ref (ad 1), .int x] D s0 ad ct (fun v ad' ct' => ∃ j, j < mH M ∧ x = nI j ∧ v = some (.ref (ad (56 + j))) ∧ ad' = ad ∧ ct' = ct) := by
  refine KM.of G (by decide) (Nat.le_of_ble_eq_true rfl) (Nat.le_of_ble_eq_true rfl) ?_
  intro p e s m args below meth c ls Q hQ X hin hL hW hS
  obtain ⟨hx, hb, hr, hml, hown, hlocks, hts, hq, hK, hI⟩ := X
  obtain ⟨h1, ⟨ha2, ha3, ha4, ha5, ha6⟩, hcl, hpe, hst, hsa, hpc, hha, hod, hbo⟩ := hm
  obtain ⟨⟨hb1, hb2, hb3, hb4, hb5⟩, hk1, hk2, hk3, hk4, hk5⟩ := ho
  refine lv_iload_n hx hb dX7_handAt_0 rfl (hL.at 1 rfl) ?_
  refine lv_if_lt (tgt := 12) hx hb dX7_handAt_1 (by decide) (fun c1 => ?_) (fun c1 => ?_)
  · try dsimp only at c1
    exact absurd c1 (kIn_pos hin0 (by omega))
  · try dsimp only at c1
    refine lv_iload_n hx hb dX7_handAt_4 rfl (hL.at 1 rfl) ?_
    refine lv_aload_n hx hb dX7_handAt_5 rfl (hL.at 0 rfl) ?_
    refine k_get (ci := 9) (C := RX7) (T := TX7) (N := 15) hx hb hts w_RX7 hown hK hW (by first | assumption | exact up_s | (rw [up_n (by omega)]; first | assumption | exact up_s | (rw [up_n (by omega)]; first | assumption | exact up_s | (rw [up_n (by omega)]; first | assumption | exact up_s | (rw [up_n (by omega)]; first | assumption | exact up_s | (rw [up_n (by omega)]; first | assumption | exact up_s)))))) rfl 9 (by decide) (hq _ q158 rfl) (fun _ h9 => h9) (by rfl) dX7_handAt_6 ?_
    refine lv_icmp_lt (tgt := 23) hx hb dX7_handAt_9 (by decide) (fun c9 => ?_) (fun c9 => ?_)
    · try dsimp only at c9
      obtain ⟨j, hj, hxj⟩ := kIn_of c1 c9 (by omega)
      subst hxj
      refine lv_aload_n hx hb dX7_handAt_23 rfl (hL.at 0 rfl) ?_
      refine k_get (ci := 9) (C := RX7) (T := TX7) (N := 15) hx hb hts w_RX7 hown hK hW (by first | assumption | exact up_s | (rw [up_n (by omega)]; first | assumption | exact up_s | (rw [up_n (by omega)]; first | assumption | exact up_s | (rw [up_n (by omega)]; first | assumption | exact up_s | (rw [up_n (by omega)]; first | assumption | exact up_s | (rw [up_n (by omega)]; first | assumption | exact up_s)))))) rfl 3 (by decide) (hq _ q152 rfl) (fun _ h9 => h9) (by rfl) dX7_handAt_24 ?_
      refine lv_iload_n hx hb dX7_handAt_27 rfl (hL.at 1 rfl) ?_
      refine k_aald hx hb hK hW 7 (by first | assumption | exact up_s | (rw [up_n (by omega)]; first | assumption | exact up_s | (rw [up_n (by omega)]; first | assumption | exact up_s | (rw [up_n (by omega)]; first | assumption | exact up_s | (rw [up_n (by omega)]; first | assumption | exact up_s | (rw [up_n (by omega)]; first | assumption | exact up_s)))))) rfl j (by omega) (by omega) rfl (kqs_at hj) dX7_handAt_28 ?_
      rw [hQ]
      exact k_aret hx hb hr (Or.inl ⟨_, rfl⟩) hlocks (Or.inr ⟨_, rfl⟩) hW hS (by omega) (by omega) dX7_handAt_29 (⟨j, hj, rfl, rfl, rfl, rfl⟩)
    · try dsimp only at c9
      exact absurd (kIn_lt hin0 (by omega)) c9

set_option maxHeartbeats 4000000 in
set_option maxRecDepth 100000 in
/-- TailorBench.orderAt  -/
theorem c_orderAt {l : Launch} {D : va_G} {cy : Nat → ClassId} {sad : Nat → Nat} {em : Nat} {s0 : State} {a0 : Array Value} (G : kG kSTR l D cy sad em s0 a0) {ad : Nat → Nat} {ct : Nat → Option va_E} {M : tM} (hm : RepC cy ad ct M) (ho : okM M) (x : Int32) :
    KX l yX7_orderAt [.code yX7_orderAt prog_1_method_34_code 2 (some (.object "TailorBench$Order"))] 6 90 1 6 [.ref (ad 1), .int x] D s0 ad ct (fun v ad' ct' => ∃ j, j < mO M ∧ x = nI j ∧ v = some (.ref (ad (64 + j))) ∧ ad' = ad ∧ ct' = ct) (fun E => E = eIdx ∧ ¬ kIn x (mO M)) := by
  refine KX.of G (by decide) (Nat.le_of_ble_eq_true rfl) (Nat.le_of_ble_eq_true rfl) ?_
  intro p e s m args below meth c ls Q hQ X hin hL hW hS
  obtain ⟨hx, hb, hr, hml, hown, hlocks, hts, hq, hK, hI⟩ := X
  obtain ⟨h1, ⟨ha2, ha3, ha4, ha5, ha6⟩, hcl, hpe, hst, hsa, hpc, hha, hod, hbo⟩ := hm
  obtain ⟨⟨hb1, hb2, hb3, hb4, hb5⟩, hk1, hk2, hk3, hk4, hk5⟩ := ho
  refine lv_iload_n hx hb dX7_orderAt_0 rfl (hL.at 1 rfl) ?_
  refine lv_if_lt (tgt := 12) hx hb dX7_orderAt_1 (by decide) (fun c1 => ?_) (fun c1 => ?_)
  · try dsimp only at c1
    rw [hQ]
    exact k_throwW G hx hb hlocks (names := ["java/lang/RuntimeException", "java/lang/Exception"]) hown hts hq hI (by decide) (by decide) (gT_in q300 rfl) (gT_in q72 rfl) 3 rfl (fun w hw => hq w (at_111 w hw).1 (at_111 w hw).2) ot_111 hW hS (hL.1.trans hml.symm) hin dX7_orderAt_12 dX7_orderAt_15 dX7_orderAt_16 dX7_orderAt_19 dX7_orderAt_22 (by decide) (by decide) (by show _ ≤ (1 : Nat); omega) (by show _ ≤ (6 : Nat); omega) (by omega) (by omega) (⟨rfl, by first | exact kIn_neg c1 (by omega) | exact kIn_ge c9 (by omega)⟩)
  · try dsimp only at c1
    refine lv_iload_n hx hb dX7_orderAt_4 rfl (hL.at 1 rfl) ?_
    refine lv_aload_n hx hb dX7_orderAt_5 rfl (hL.at 0 rfl) ?_
    refine k_get (ci := 9) (C := RX7) (T := TX7) (N := 15) hx hb hts w_RX7 hown hK hW (by first | assumption | exact up_s | (rw [up_n (by omega)]; first | assumption | exact up_s | (rw [up_n (by omega)]; first | assumption | exact up_s | (rw [up_n (by omega)]; first | assumption | exact up_s | (rw [up_n (by omega)]; first | assumption | exact up_s | (rw [up_n (by omega)]; first | assumption | exact up_s)))))) rfl 10 (by decide) (hq _ q159 rfl) (fun _ h9 => h9) (by rfl) dX7_orderAt_6 ?_
    refine lv_icmp_lt (tgt := 23) hx hb dX7_orderAt_9 (by decide) (fun c9 => ?_) (fun c9 => ?_)
    · try dsimp only at c9
      obtain ⟨j, hj, hxj⟩ := kIn_of c1 c9 (by omega)
      subst hxj
      refine lv_aload_n hx hb dX7_orderAt_23 rfl (hL.at 0 rfl) ?_
      refine k_get (ci := 9) (C := RX7) (T := TX7) (N := 15) hx hb hts w_RX7 hown hK hW (by first | assumption | exact up_s | (rw [up_n (by omega)]; first | assumption | exact up_s | (rw [up_n (by omega)]; first | assumption | exact up_s | (rw [up_n (by omega)]; first | assumption | exact up_s | (rw [up_n (by omega)]; first | assumption | exact up_s | (rw [up_n (by omega)]; first | assumption | exact up_s)))))) rfl 4 (by decide) (hq _ q153 rfl) (fun _ h9 => h9) (by rfl) dX7_orderAt_24 ?_
      refine lv_iload_n hx hb dX7_orderAt_27 rfl (hL.at 1 rfl) ?_
      refine k_aald hx hb hK hW 8 (by first | assumption | exact up_s | (rw [up_n (by omega)]; first | assumption | exact up_s | (rw [up_n (by omega)]; first | assumption | exact up_s | (rw [up_n (by omega)]; first | assumption | exact up_s | (rw [up_n (by omega)]; first | assumption | exact up_s | (rw [up_n (by omega)]; first | assumption | exact up_s)))))) rfl j (by omega) (by omega) rfl (kqs_at hj) dX7_orderAt_28 ?_
      rw [hQ]
      exact vx_ret (k_aret hx hb hr (Or.inl ⟨_, rfl⟩) hlocks (Or.inr ⟨_, rfl⟩) hW hS (by omega) (by omega) dX7_orderAt_29 (⟨j, hj, rfl, rfl, rfl, rfl⟩))
    · try dsimp only at c9
      rw [hQ]
      exact k_throwW G hx hb hlocks (names := ["java/lang/RuntimeException", "java/lang/Exception"]) hown hts hq hI (by decide) (by decide) (gT_in q300 rfl) (gT_in q72 rfl) 3 rfl (fun w hw => hq w (at_111 w hw).1 (at_111 w hw).2) ot_111 hW hS (hL.1.trans hml.symm) hin dX7_orderAt_12 dX7_orderAt_15 dX7_orderAt_16 dX7_orderAt_19 dX7_orderAt_22 (by decide) (by decide) (by show _ ≤ (1 : Nat); omega) (by show _ ≤ (6 : Nat); omega) (by omega) (by omega) (⟨rfl, by first | exact kIn_neg c1 (by omega) | exact kIn_ge c9 (by omega)⟩)

set_option maxHeartbeats 4000000 in
set_option maxRecDepth 100000 in
/-- TailorBench.orderAt  -/
theorem c_orderAtM {l : Launch} {D : va_G} {cy : Nat → ClassId} {sad : Nat → Nat} {em : Nat} {s0 : State} {a0 : Array Value} (G : kG kSTR l D cy sad em s0 a0) {ad : Nat → Nat} {ct : Nat → Option va_E} {M : tM} (hm : RepC cy ad ct M) (ho : okM M) {x : Int32} (hin0 : kIn x (mO M)) :
    KM l yX7_orderAt [.code yX7_orderAt prog_1_method_34_code 2 (some (.object "TailorBench$Order"))] 0 0 0 0 [.ref (ad 1), .int x] D s0 ad ct (fun v ad' ct' => ∃ j, j < mO M ∧ x = nI j ∧ v = some (.ref (ad (64 + j))) ∧ ad' = ad ∧ ct' = ct) := by
  refine KM.of G (by decide) (Nat.le_of_ble_eq_true rfl) (Nat.le_of_ble_eq_true rfl) ?_
  intro p e s m args below meth c ls Q hQ X hin hL hW hS
  obtain ⟨hx, hb, hr, hml, hown, hlocks, hts, hq, hK, hI⟩ := X
  obtain ⟨h1, ⟨ha2, ha3, ha4, ha5, ha6⟩, hcl, hpe, hst, hsa, hpc, hha, hod, hbo⟩ := hm
  obtain ⟨⟨hb1, hb2, hb3, hb4, hb5⟩, hk1, hk2, hk3, hk4, hk5⟩ := ho
  refine lv_iload_n hx hb dX7_orderAt_0 rfl (hL.at 1 rfl) ?_
  refine lv_if_lt (tgt := 12) hx hb dX7_orderAt_1 (by decide) (fun c1 => ?_) (fun c1 => ?_)
  · try dsimp only at c1
    exact absurd c1 (kIn_pos hin0 (by omega))
  · try dsimp only at c1
    refine lv_iload_n hx hb dX7_orderAt_4 rfl (hL.at 1 rfl) ?_
    refine lv_aload_n hx hb dX7_orderAt_5 rfl (hL.at 0 rfl) ?_
    refine k_get (ci := 9) (C := RX7) (T := TX7) (N := 15) hx hb hts w_RX7 hown hK hW (by first | assumption | exact up_s | (rw [up_n (by omega)]; first | assumption | exact up_s | (rw [up_n (by omega)]; first | assumption | exact up_s | (rw [up_n (by omega)]; first | assumption | exact up_s | (rw [up_n (by omega)]; first | assumption | exact up_s | (rw [up_n (by omega)]; first | assumption | exact up_s)))))) rfl 10 (by decide) (hq _ q159 rfl) (fun _ h9 => h9) (by rfl) dX7_orderAt_6 ?_
    refine lv_icmp_lt (tgt := 23) hx hb dX7_orderAt_9 (by decide) (fun c9 => ?_) (fun c9 => ?_)
    · try dsimp only at c9
      obtain ⟨j, hj, hxj⟩ := kIn_of c1 c9 (by omega)
      subst hxj
      refine lv_aload_n hx hb dX7_orderAt_23 rfl (hL.at 0 rfl) ?_
      refine k_get (ci := 9) (C := RX7) (T := TX7) (N := 15) hx hb hts w_RX7 hown hK hW (by first | assumption | exact up_s | (rw [up_n (by omega)]; first | assumption | exact up_s | (rw [up_n (by omega)]; first | assumption | exact up_s | (rw [up_n (by omega)]; first | assumption | exact up_s | (rw [up_n (by omega)]; first | assumption | exact up_s | (rw [up_n (by omega)]; first | assumption | exact up_s)))))) rfl 4 (by decide) (hq _ q153 rfl) (fun _ h9 => h9) (by rfl) dX7_orderAt_24 ?_
      refine lv_iload_n hx hb dX7_orderAt_27 rfl (hL.at 1 rfl) ?_
      refine k_aald hx hb hK hW 8 (by first | assumption | exact up_s | (rw [up_n (by omega)]; first | assumption | exact up_s | (rw [up_n (by omega)]; first | assumption | exact up_s | (rw [up_n (by omega)]; first | assumption | exact up_s | (rw [up_n (by omega)]; first | assumption | exact up_s | (rw [up_n (by omega)]; first | assumption | exact up_s)))))) rfl j (by omega) (by omega) rfl (kqs_at hj) dX7_orderAt_28 ?_
      rw [hQ]
      exact k_aret hx hb hr (Or.inl ⟨_, rfl⟩) hlocks (Or.inr ⟨_, rfl⟩) hW hS (by omega) (by omega) dX7_orderAt_29 (⟨j, hj, rfl, rfl, rfl, rfl⟩)
    · try dsimp only at c9
      exact absurd (kIn_lt hin0 (by omega)) c9
