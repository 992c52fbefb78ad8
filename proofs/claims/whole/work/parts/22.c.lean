/-! the table -/
set_option maxHeartbeats 4000000 in
set_option maxRecDepth 100000 in
/-- TailorBench$Table.isAhead  -/
theorem c_isAhead {l : Launch} {D : va_G} {cy : Nat → ClassId} {sad : Nat → Nat} {em : Nat} {s0 : State} {a0 : Array Value} (G : kG kSTR l D cy sad em s0 a0) {ad : Nat → Nat} {ct : Nat → Option va_E} {tb : tTb} {fl fw fh fr : Nat → UInt64} (hT : RepT cy ad ct tb fl fw fh fr) (w t : UInt64) {j : Nat} (hj : j < 40) :
    KM l yX6_isAhead [.code yX6_isAhead prog_8_method_6_code 6 (some .boolean)] 0 0 0 0 [.ref (ad 7), .double w, .double t, .int (nI j)] D s0 ad ct (fun v ad' ct' => v = some (.int (if fAhead w t (fw j) (fl j) then 1 else 0)) ∧ ad' = ad ∧ ct' = ct) := by
  refine KM.of G (by decide) (Nat.le_of_ble_eq_true rfl) (Nat.le_of_ble_eq_true rfl) ?_
  intro p e s m args below meth c ls Q hQ X hin hL hW hS
  obtain ⟨hx, hb, hr, hml, hown, hlocks, hts, hq, hK, hI⟩ := X
  obtain ⟨t7, t8, t9, t10, t11⟩ := id hT
  refine lv_dload_n hx hb dX6_isAhead_0 rfl (hL.at 3 rfl) ?_
  refine lv_aload_n hx hb dX6_isAhead_1 rfl (hL.at 0 rfl) ?_
  refine k_get (ci := 8) (C := RX6) (T := TX6) (N := 11) hx hb hts w_RX6 hown hK hW (by first | assumption | exact up_s | (rw [up_n (by omega)]; first | assumption | exact up_s | (rw [up_n (by omega)]; first | assumption | exact up_s | (rw [up_n (by omega)]; first | assumption | exact up_s | (rw [up_n (by omega)]; first | assumption | exact up_s | (rw [up_n (by omega)]; first | assumption | exact up_s)))))) rfl 0 (by decide) (hq _ q110 rfl) (fun _ h9 => h9) (by rfl) dX6_isAhead_2 ?_
  refine lv_iload hx hb dX6_isAhead_5 (hL.at 5 rfl) ?_
  refine k_dald hx hb hK hW (by first | assumption | exact up_s | (rw [up_n (by omega)]; first | assumption | exact up_s | (rw [up_n (by omega)]; first | assumption | exact up_s | (rw [up_n (by omega)]; first | assumption | exact up_s | (rw [up_n (by omega)]; first | assumption | exact up_s | (rw [up_n (by omega)]; first | assumption | exact up_s)))))) j (by omega) (by omega) rfl dX6_isAhead_7 ?_
  refine lv_dcmp hx hb dX6_isAhead_8 ?_
  refine lv_if_gt (tgt := 36) hx hb dX6_isAhead_9 (by decide) (fun c9 => ?_) (fun c9 => ?_)
  · rw [cl_gt] at c9
    refine lv_iconst (v := 1) hx hb dX6_isAhead_36 (by decide) ?_
    refine lv_goto (tgt := 41) hx hb dX6_isAhead_37 (by decide) ?_
    rw [hQ]
    exact k_zret hx hb hr hlocks rfl hW hS (by omega) (by omega) dX6_isAhead_41 (⟨by simp [fAhead, *], rfl, rfl⟩)
  · rw [cl_gt] at c9
    refine lv_dload_n hx hb dX6_isAhead_12 rfl (hL.at 3 rfl) ?_
    refine lv_aload_n hx hb dX6_isAhead_13 rfl (hL.at 0 rfl) ?_
    refine k_get (ci := 8) (C := RX6) (T := TX6) (N := 11) hx hb hts w_RX6 hown hK hW (by first | assumption | exact up_s | (rw [up_n (by omega)]; first | assumption | exact up_s | (rw [up_n (by omega)]; first | assumption | exact up_s | (rw [up_n (by omega)]; first | assumption | exact up_s | (rw [up_n (by omega)]; first | assumption | exact up_s | (rw [up_n (by omega)]; first | assumption | exact up_s)))))) rfl 0 (by decide) (hq _ q110 rfl) (fun _ h9 => h9) (by rfl) dX6_isAhead_14 ?_
    refine lv_iload hx hb dX6_isAhead_17 (hL.at 5 rfl) ?_
    refine k_dald hx hb hK hW (by first | assumption | exact up_s | (rw [up_n (by omega)]; first | assumption | exact up_s | (rw [up_n (by omega)]; first | assumption | exact up_s | (rw [up_n (by omega)]; first | assumption | exact up_s | (rw [up_n (by omega)]; first | assumption | exact up_s | (rw [up_n (by omega)]; first | assumption | exact up_s)))))) j (by omega) (by omega) rfl dX6_isAhead_19 ?_
    refine lv_dcmp hx hb dX6_isAhead_20 ?_
    refine lv_if_ne (tgt := 40) hx hb dX6_isAhead_21 (by decide) (fun c21 => ?_) (fun c21 => ?_)
    · rw [cl_eq] at c21
      refine lv_iconst (v := 0) hx hb dX6_isAhead_40 (by decide) ?_
      rw [hQ]
      exact k_zret hx hb hr hlocks rfl hW hS (by omega) (by omega) dX6_isAhead_41 (⟨by simp [fAhead, *], rfl, rfl⟩)
    · rw [cl_eq] at c21
      refine lv_dload_n hx hb dX6_isAhead_24 rfl (hL.at 1 rfl) ?_
      refine lv_aload_n hx hb dX6_isAhead_25 rfl (hL.at 0 rfl) ?_
      refine k_get (ci := 8) (C := RX6) (T := TX6) (N := 11) hx hb hts w_RX6 hown hK hW (by first | assumption | exact up_s | (rw [up_n (by omega)]; first | assumption | exact up_s | (rw [up_n (by omega)]; first | assumption | exact up_s | (rw [up_n (by omega)]; first | assumption | exact up_s | (rw [up_n (by omega)]; first | assumption | exact up_s | (rw [up_n (by omega)]; first | assumption | exact up_s)))))) rfl 1 (by decide) (hq _ q111 rfl) (fun _ h9 => h9) (by rfl) dX6_isAhead_26 ?_
      refine lv_iload hx hb dX6_isAhead_29 (hL.at 5 rfl) ?_
      refine k_dald hx hb hK hW (by first | assumption | exact up_s | (rw [up_n (by omega)]; first | assumption | exact up_s | (rw [up_n (by omega)]; first | assumption | exact up_s | (rw [up_n (by omega)]; first | assumption | exact up_s | (rw [up_n (by omega)]; first | assumption | exact up_s | (rw [up_n (by omega)]; first | assumption | exact up_s)))))) j (by omega) (by omega) rfl dX6_isAhead_31 ?_
      refine lv_dcmp hx hb dX6_isAhead_32 ?_
      refine lv_if_le (tgt := 40) hx hb dX6_isAhead_33 (by decide) (fun c33 => ?_) (fun c33 => ?_)
      · rw [cl_le] at c33
        refine lv_iconst (v := 0) hx hb dX6_isAhead_40 (by decide) ?_
        rw [hQ]
        exact k_zret hx hb hr hlocks rfl hW hS (by omega) (by omega) dX6_isAhead_41 (⟨by simp [fAhead, *], rfl, rfl⟩)
      · rw [cl_le] at c33
        refine lv_iconst (v := 1) hx hb dX6_isAhead_36 (by decide) ?_
        refine lv_goto (tgt := 41) hx hb dX6_isAhead_37 (by decide) ?_
        rw [hQ]
        exact k_zret hx hb hr hlocks rfl hW hS (by omega) (by omega) dX6_isAhead_41 (⟨by simp [fAhead, *], rfl, rfl⟩)

set_option maxHeartbeats 4000000 in
set_option maxRecDepth 100000 in
/-- TailorBench$Table.sortIn  -/
theorem c_sortIn {l : Launch} {D : va_G} {cy : Nat → ClassId} {sad : Nat → Nat} {em : Nat} {s0 : State} {a0 : Array Value} (G : kG kSTR l D cy sad em s0 a0) {ad : Nat → Nat} {ct : Nat → Option va_E} {tb : tTb} {fl fw fh fr : Nat → UInt64} (hT : RepT cy ad ct tb fl fw fh fr) (w t : UInt64) (hlaid : tb.1 < 40) :
    KM l yX6_sortIn [.code yX6_sortIn prog_8_method_5_code 6 none] 1 25 0 0 [.ref (ad 7), .double w, .double t] D s0 ad ct (fun v ad' ct' => v = none ∧ ad' = ad ∧ RepT cy ad ct' (tb.1 + 1, tb.2) (kIns w t tb.1 fw fl).2 (kIns w t tb.1 fw fl).1 fh fr ∧ kOut ct ct') := by
  refine KM.of G (by decide) (Nat.le_of_ble_eq_true rfl) (Nat.le_of_ble_eq_true rfl) ?_
  intro p e s m args below meth c ls Q hQ X hin hL hW hS
  obtain ⟨hx, hb, hr, hml, hown, hlocks, hts, hq, hK, hI⟩ := X
  obtain ⟨t7, t8, t9, t10, t11⟩ := id hT
  refine lv_aload_n hx hb dX6_sortIn_0 rfl (hL.at 0 rfl) ?_
  refine k_get (ci := 8) (C := RX6) (T := TX6) (N := 11) hx hb hts w_RX6 hown hK hW (by first | assumption | exact up_s | (rw [up_n (by omega)]; first | assumption | exact up_s | (rw [up_n (by omega)]; first | assumption | exact up_s | (rw [up_n (by omega)]; first | assumption | exact up_s | (rw [up_n (by omega)]; first | assumption | exact up_s | (rw [up_n (by omega)]; first | assumption | exact up_s)))))) rfl 4 (by decide) (hq _ q114 rfl) (fun _ h9 => h9) (by rfl) dX6_sortIn_1 ?_
  refine lv_bipush (v := 40) hx hb dX6_sortIn_4 (by decide) ?_
  refine lv_icmp_lt (tgt := 10) hx hb dX6_sortIn_6 (by decide) (fun c6 => ?_) (fun c6 => ?_)
  · try dsimp only at c6
    refine lv_aload_n hx hb dX6_sortIn_10 rfl (hL.at 0 rfl) ?_
    refine k_get (ci := 8) (C := RX6) (T := TX6) (N := 11) hx hb hts w_RX6 hown hK hW (by first | assumption | exact up_s | (rw [up_n (by omega)]; first | assumption | exact up_s | (rw [up_n (by omega)]; first | assumption | exact up_s | (rw [up_n (by omega)]; first | assumption | exact up_s | (rw [up_n (by omega)]; first | assumption | exact up_s | (rw [up_n (by omega)]; first | assumption | exact up_s)))))) rfl 4 (by decide) (hq _ q114 rfl) (fun _ h9 => h9) (by rfl) dX6_sortIn_11 ?_
    refine k_ist hx hb hL (i := 5) (by decide) dX6_sortIn_14 (fun ls hL => ?_)
    have loop16 : ∀ (nf : Nat) (a : Nat) (fw0 fl0 : Nat → UInt64) (ct0 : Nat → Option va_E), a < nf → a ≤ tb.1 → RepT cy ad ct0 tb fl0 fw0 fh fr → kOut ct ct0 → kIns w t a fw0 fl0 = kIns w t tb.1 fw fl → ∀ (H : Heap) (locs : List Loc) (ls : Array Slot), kW D s0.heap.size ad ct0 H → va_S (kA s0) s.heap H locs → lvP ls 6 [some (.ref (ad 7)), some (.double w), none, some (.double t), none, some (.int (nI a))] → W p l e (krm 1 25 0 0) s m args below meth c H locs 0 0 Q (F0 m 16 ls []) := by
      intro nf
      induction nf with
      | zero => intro a fw0 fl0 ct0 hms16; exact absurd hms16 (Nat.not_lt_zero _)
      | succ nf ih16 =>
        intro a fw0 fl0 ct0 hms16 ha hT0 hko hki H locs ls hW hS hL
        obtain ⟨t7, t8, t9, t10, t11⟩ := id hT0
        refine lv_iload hx hb dX6_sortIn_16 (hL.at 5 rfl) ?_
        refine lv_if_le (tgt := 72) hx hb dX6_sortIn_18 (by decide) (fun c18 => ?_) (fun c18 => ?_)
        · try dsimp only at c18
          have e0 : a = 0 := by
            rcases Nat.eq_zero_or_pos a with q | q
            · exact q
            · exact absurd c18 (nI_nle q (by omega))
          subst e0
          refine lv_aload_n hx hb dX6_sortIn_72 rfl (hL.at 0 rfl) ?_
          refine k_get (ci := 8) (C := RX6) (T := TX6) (N := 11) hx hb hts w_RX6 hown hK hW (by first | assumption | exact up_s | (rw [up_n (by omega)]; first | assumption | exact up_s | (rw [up_n (by omega)]; first | assumption | exact up_s | (rw [up_n (by omega)]; first | assumption | exact up_s | (rw [up_n (by omega)]; first | assumption | exact up_s | (rw [up_n (by omega)]; first | assumption | exact up_s)))))) rfl 1 (by decide) (hq _ q111 rfl) (fun _ h9 => h9) (by rfl) dX6_sortIn_73 ?_
          refine lv_iload hx hb dX6_sortIn_76 (hL.at 5 rfl) ?_
          refine lv_dload_n hx hb dX6_sortIn_78 rfl (hL.at 1 rfl) ?_
          refine k_dast hx hb hK hW hS (by first | assumption | exact up_s | (rw [up_n (by omega)]; first | assumption | exact up_s | (rw [up_n (by omega)]; first | assumption | exact up_s | (rw [up_n (by omega)]; first | assumption | exact up_s | (rw [up_n (by omega)]; first | assumption | exact up_s | (rw [up_n (by omega)]; first | assumption | exact up_s)))))) (by omega) _ (by omega) (by omega) rfl dX6_sortIn_79 (fun H locs hW hS => ?_)
          refine lv_aload_n hx hb dX6_sortIn_80 rfl (hL.at 0 rfl) ?_
          refine k_get (ci := 8) (C := RX6) (T := TX6) (N := 11) hx hb hts w_RX6 hown hK hW (by first | assumption | exact up_s | (rw [up_n (by omega)]; first | assumption | exact up_s | (rw [up_n (by omega)]; first | assumption | exact up_s | (rw [up_n (by omega)]; first | assumption | exact up_s | (rw [up_n (by omega)]; first | assumption | exact up_s | (rw [up_n (by omega)]; first | assumption | exact up_s)))))) rfl 0 (by decide) (hq _ q110 rfl) (fun _ h9 => h9) (by rfl) dX6_sortIn_81 ?_
          refine lv_iload hx hb dX6_sortIn_84 (hL.at 5 rfl) ?_
          refine lv_dload_n hx hb dX6_sortIn_86 rfl (hL.at 3 rfl) ?_
          refine k_dast hx hb hK hW hS (by first | assumption | exact up_s | (rw [up_n (by omega)]; first | assumption | exact up_s | (rw [up_n (by omega)]; first | assumption | exact up_s | (rw [up_n (by omega)]; first | assumption | exact up_s | (rw [up_n (by omega)]; first | assumption | exact up_s | (rw [up_n (by omega)]; first | assumption | exact up_s)))))) (by omega) _ (by omega) (by omega) rfl dX6_sortIn_87 (fun H locs hW hS => ?_)
          refine lv_aload_n hx hb dX6_sortIn_88 rfl (hL.at 0 rfl) ?_
          refine lv_dup hx hb dX6_sortIn_89 rfl ?_
          refine k_get (ci := 8) (C := RX6) (T := TX6) (N := 11) hx hb hts w_RX6 hown hK hW (by first | assumption | exact up_s | (rw [up_n (by omega)]; first | assumption | exact up_s | (rw [up_n (by omega)]; first | assumption | exact up_s | (rw [up_n (by omega)]; first | assumption | exact up_s | (rw [up_n (by omega)]; first | assumption | exact up_s | (rw [up_n (by omega)]; first | assumption | exact up_s)))))) rfl 4 (by decide) (hq _ q114 rfl) (fun _ h9 => h9) (by rfl) dX6_sortIn_90 ?_
          refine lv_iconst (v := 1) hx hb dX6_sortIn_93 (by decide) ?_
          refine lv_iadd hx hb dX6_sortIn_94 ?_
          rw [nI_1]
          refine k_put (ci := 8) (C := RX6) (T := TX6) (N := 11) (ty := tyX6 4) hx hb hts w_RX6 tyX6 tyX6_ok nmX6 hown hK hW hS (by first | assumption | exact up_s | (rw [up_n (by omega)]; first | assumption | exact up_s | (rw [up_n (by omega)]; first | assumption | exact up_s | (rw [up_n (by omega)]; first | assumption | exact up_s | (rw [up_n (by omega)]; first | assumption | exact up_s | (rw [up_n (by omega)]; first | assumption | exact up_s)))))) (by omega) rfl 4 (by decide) (hq _ q114 rfl) (fun _ h9 => h9) rfl (by decide +kernel) rfl rfl (by first | exact Nat.le_of_ble_eq_true rfl | (simp only [List.length_set]; exact Nat.le_of_ble_eq_true rfl)) dX6_sortIn_95 (fun H locs hW hS => ?_)
          rw [hQ]
          exact k_vret hx hb hr hlocks hW hS (by omega) (by omega) dX6_sortIn_98 (⟨rfl, rfl, by rw [← hki]; exact ⟨(by first | assumption | exact up_s | (rw [up_n (by omega)]; first | assumption | exact up_s | (rw [up_n (by omega)]; first | assumption | exact up_s | (rw [up_n (by omega)]; first | assumption | exact up_s | (rw [up_n (by omega)]; first | assumption | exact up_s | (rw [up_n (by omega)]; first | assumption | exact up_s)))))), (by first | assumption | exact up_s | (rw [up_n (by omega)]; first | assumption | exact up_s | (rw [up_n (by omega)]; first | assumption | exact up_s | (rw [up_n (by omega)]; first | assumption | exact up_s | (rw [up_n (by omega)]; first | assumption | exact up_s | (rw [up_n (by omega)]; first | assumption | exact up_s)))))), (by first | assumption | exact up_s | (rw [up_n (by omega)]; first | assumption | exact up_s | (rw [up_n (by omega)]; first | assumption | exact up_s | (rw [up_n (by omega)]; first | assumption | exact up_s | (rw [up_n (by omega)]; first | assumption | exact up_s | (rw [up_n (by omega)]; first | assumption | exact up_s)))))), (by first | assumption | exact up_s | (rw [up_n (by omega)]; first | assumption | exact up_s | (rw [up_n (by omega)]; first | assumption | exact up_s | (rw [up_n (by omega)]; first | assumption | exact up_s | (rw [up_n (by omega)]; first | assumption | exact up_s | (rw [up_n (by omega)]; first | assumption | exact up_s)))))), (by first | assumption | exact up_s | (rw [up_n (by omega)]; first | assumption | exact up_s | (rw [up_n (by omega)]; first | assumption | exact up_s | (rw [up_n (by omega)]; first | assumption | exact up_s | (rw [up_n (by omega)]; first | assumption | exact up_s | (rw [up_n (by omega)]; first | assumption | exact up_s))))))⟩, (by repeat (first | assumption | exact kOut.rf | refine kOut.up ?_ (by omega) (by omega)))⟩)
        · try dsimp only at c18
          obtain ⟨b, rfl⟩ : ∃ b, a = b + 1 := ⟨a - 1, by have : a ≠ 0 := (fun q => c18 (by rw [q]; decide)); omega⟩
          refine lv_aload_n hx hb dX6_sortIn_21 rfl (hL.at 0 rfl) ?_
          refine lv_dload_n hx hb dX6_sortIn_22 rfl (hL.at 1 rfl) ?_
          refine lv_dload_n hx hb dX6_sortIn_23 rfl (hL.at 3 rfl) ?_
          refine lv_iload hx hb dX6_sortIn_24 (hL.at 5 rfl) ?_
          refine lv_iconst (v := 1) hx hb dX6_sortIn_26 (by decide) ?_
          refine lv_isub hx hb dX6_sortIn_27 ?_
          rw [show nI (b + 1) - 1 = nI b from nI_pred b]
          refine k_callV (q := (RX6, TX6, 11)) hx hb hml hown hts hK hI hS hW hL.1 (by first | assumption | exact up_s | (rw [up_n (by omega)]; first | assumption | exact up_s | (rw [up_n (by omega)]; first | assumption | exact up_s | (rw [up_n (by omega)]; first | assumption | exact up_s | (rw [up_n (by omega)]; first | assumption | exact up_s | (rw [up_n (by omega)]; first | assumption | exact up_s)))))) rfl (c_isAhead G hT0 w t (j := b) (by omega)) (m5 (gT_in q385 rfl) (gT_in q387 rfl) (gT_in q12 rfl) (gT_in q56 rfl) (gT_in q388 rfl)) rfl (show kpar yX6_isAhead 3 from ⟨by decide, by decide, by decide +kernel⟩) ⟨by decide, by decide⟩ (by show _ ≤ (0 : Nat); omega) (by show _ ≤ (0 : Nat); omega) rfl (by decide) dX6_sortIn_28 (fun v ad28 ct28 H locs hp hW hS => ?_)
          obtain ⟨rfl, h1, h2⟩ := hp
          rw [h1, h2] at hW
          refine lv_if_eq (tgt := 72) hx hb dX6_sortIn_31 (by decide) (fun c31 => ?_) (fun c31 => ?_)
          · try simp only [b2_eq, Decidable.not_not] at c31
            try dsimp only at c31
            have hk : kIns w t (b + 1) fw0 fl0 = (vf_upd fw0 (b + 1) w, vf_upd fl0 (b + 1) t) := if_neg c31
            rw [hk] at hki
            refine lv_aload_n hx hb dX6_sortIn_72 rfl (hL.at 0 rfl) ?_
            refine k_get (ci := 8) (C := RX6) (T := TX6) (N := 11) hx hb hts w_RX6 hown hK hW (by first | assumption | exact up_s | (rw [up_n (by omega)]; first | assumption | exact up_s | (rw [up_n (by omega)]; first | assumption | exact up_s | (rw [up_n (by omega)]; first | assumption | exact up_s | (rw [up_n (by omega)]; first | assumption | exact up_s | (rw [up_n (by omega)]; first | assumption | exact up_s)))))) rfl 1 (by decide) (hq _ q111 rfl) (fun _ h9 => h9) (by rfl) dX6_sortIn_73 ?_
            refine lv_iload hx hb dX6_sortIn_76 (hL.at 5 rfl) ?_
            refine lv_dload_n hx hb dX6_sortIn_78 rfl (hL.at 1 rfl) ?_
            refine k_dast hx hb hK hW hS (by first | assumption | exact up_s | (rw [up_n (by omega)]; first | assumption | exact up_s | (rw [up_n (by omega)]; first | assumption | exact up_s | (rw [up_n (by omega)]; first | assumption | exact up_s | (rw [up_n (by omega)]; first | assumption | exact up_s | (rw [up_n (by omega)]; first | assumption | exact up_s)))))) (by omega) _ (by omega) (by omega) rfl dX6_sortIn_79 (fun H locs hW hS => ?_)
            refine lv_aload_n hx hb dX6_sortIn_80 rfl (hL.at 0 rfl) ?_
            refine k_get (ci := 8) (C := RX6) (T := TX6) (N := 11) hx hb hts w_RX6 hown hK hW (by first | assumption | exact up_s | (rw [up_n (by omega)]; first | assumption | exact up_s | (rw [up_n (by omega)]; first | assumption | exact up_s | (rw [up_n (by omega)]; first | assumption | exact up_s | (rw [up_n (by omega)]; first | assumption | exact up_s | (rw [up_n (by omega)]; first | assumption | exact up_s)))))) rfl 0 (by decide) (hq _ q110 rfl) (fun _ h9 => h9) (by rfl) dX6_sortIn_81 ?_
            refine lv_iload hx hb dX6_sortIn_84 (hL.at 5 rfl) ?_
            refine lv_dload_n hx hb dX6_sortIn_86 rfl (hL.at 3 rfl) ?_
            refine k_dast hx hb hK hW hS (by first | assumption | exact up_s | (rw [up_n (by omega)]; first | assumption | exact up_s | (rw [up_n (by omega)]; first | assumption | exact up_s | (rw [up_n (by omega)]; first | assumption | exact up_s | (rw [up_n (by omega)]; first | assumption | exact up_s | (rw [up_n (by omega)]; first | assumption | exact up_s)))))) (by omega) _ (by omega) (by omega) rfl dX6_sortIn_87 (fun H locs hW hS => ?_)
            refine lv_aload_n hx hb dX6_sortIn_88 rfl (hL.at 0 rfl) ?_
            refine lv_dup hx hb dX6_sortIn_89 rfl ?_
            refine k_get (ci := 8) (C := RX6) (T := TX6) (N := 11) hx hb hts w_RX6 hown hK hW (by first | assumption | exact up_s | (rw [up_n (by omega)]; first | assumption | exact up_s | (rw [up_n (by omega)]; first | assumption | exact up_s | (rw [up_n (by omega)]; first | assumption | exact up_s | (rw [up_n (by omega)]; first | assumption | exact up_s | (rw [up_n (by omega)]; first | assumption | exact up_s)))))) rfl 4 (by decide) (hq _ q114 rfl) (fun _ h9 => h9) (by rfl) dX6_sortIn_90 ?_
            refine lv_iconst (v := 1) hx hb dX6_sortIn_93 (by decide) ?_
            refine lv_iadd hx hb dX6_sortIn_94 ?_
            rw [nI_1]
            refine k_put (ci := 8) (C := RX6) (T := TX6) (N := 11) (ty := tyX6 4) hx hb hts w_RX6 tyX6 tyX6_ok nmX6 hown hK hW hS (by first | assumption | exact up_s | (rw [up_n (by omega)]; first | assumption | exact up_s | (rw [up_n (by omega)]; first | assumption | exact up_s | (rw [up_n (by omega)]; first | assumption | exact up_s | (rw [up_n (by omega)]; first | assumption | exact up_s | (rw [up_n (by omega)]; first | assumption | exact up_s)))))) (by omega) rfl 4 (by decide) (hq _ q114 rfl) (fun _ h9 => h9) rfl (by decide +kernel) rfl rfl (by first | exact Nat.le_of_ble_eq_true rfl | (simp only [List.length_set]; exact Nat.le_of_ble_eq_true rfl)) dX6_sortIn_95 (fun H locs hW hS => ?_)
            rw [hQ]
            exact k_vret hx hb hr hlocks hW hS (by omega) (by omega) dX6_sortIn_98 (⟨rfl, rfl, by rw [← hki]; exact ⟨(by first | assumption | exact up_s | (rw [up_n (by omega)]; first | assumption | exact up_s | (rw [up_n (by omega)]; first | assumption | exact up_s | (rw [up_n (by omega)]; first | assumption | exact up_s | (rw [up_n (by omega)]; first | assumption | exact up_s | (rw [up_n (by omega)]; first | assumption | exact up_s)))))), (by first | assumption | exact up_s | (rw [up_n (by omega)]; first | assumption | exact up_s | (rw [up_n (by omega)]; first | assumption | exact up_s | (rw [up_n (by omega)]; first | assumption | exact up_s | (rw [up_n (by omega)]; first | assumption | exact up_s | (rw [up_n (by omega)]; first | assumption | exact up_s)))))), (by first | assumption | exact up_s | (rw [up_n (by omega)]; first | assumption | exact up_s | (rw [up_n (by omega)]; first | assumption | exact up_s | (rw [up_n (by omega)]; first | assumption | exact up_s | (rw [up_n (by omega)]; first | assumption | exact up_s | (rw [up_n (by omega)]; first | assumption | exact up_s)))))), (by first | assumption | exact up_s | (rw [up_n (by omega)]; first | assumption | exact up_s | (rw [up_n (by omega)]; first | assumption | exact up_s | (rw [up_n (by omega)]; first | assumption | exact up_s | (rw [up_n (by omega)]; first | assumption | exact up_s | (rw [up_n (by omega)]; first | assumption | exact up_s)))))), (by first | assumption | exact up_s | (rw [up_n (by omega)]; first | assumption | exact up_s | (rw [up_n (by omega)]; first | assumption | exact up_s | (rw [up_n (by omega)]; first | assumption | exact up_s | (rw [up_n (by omega)]; first | assumption | exact up_s | (rw [up_n (by omega)]; first | assumption | exact up_s))))))⟩, (by repeat (first | assumption | exact kOut.rf | refine kOut.up ?_ (by omega) (by omega)))⟩)
          · try simp only [b2_eq, Decidable.not_not] at c31
            try dsimp only at c31
            have hk : kIns w t (b + 1) fw0 fl0 = kIns w t b (vf_upd fw0 (b + 1) (fw0 b)) (vf_upd fl0 (b + 1) (fl0 b)) := if_pos c31
            rw [hk] at hki
            refine lv_aload_n hx hb dX6_sortIn_34 rfl (hL.at 0 rfl) ?_
            refine k_get (ci := 8) (C := RX6) (T := TX6) (N := 11) hx hb hts w_RX6 hown hK hW (by first | assumption | exact up_s | (rw [up_n (by omega)]; first | assumption | exact up_s | (rw [up_n (by omega)]; first | assumption | exact up_s | (rw [up_n (by omega)]; first | assumption | exact up_s | (rw [up_n (by omega)]; first | assumption | exact up_s | (rw [up_n (by omega)]; first | assumption | exact up_s)))))) rfl 1 (by decide) (hq _ q111 rfl) (fun _ h9 => h9) (by rfl) dX6_sortIn_35 ?_
            refine lv_iload hx hb dX6_sortIn_38 (hL.at 5 rfl) ?_
            refine lv_aload_n hx hb dX6_sortIn_40 rfl (hL.at 0 rfl) ?_
            refine k_get (ci := 8) (C := RX6) (T := TX6) (N := 11) hx hb hts w_RX6 hown hK hW (by first | assumption | exact up_s | (rw [up_n (by omega)]; first | assumption | exact up_s | (rw [up_n (by omega)]; first | assumption | exact up_s | (rw [up_n (by omega)]; first | assumption | exact up_s | (rw [up_n (by omega)]; first | assumption | exact up_s | (rw [up_n (by omega)]; first | assumption | exact up_s)))))) rfl 1 (by decide) (hq _ q111 rfl) (fun _ h9 => h9) (by rfl) dX6_sortIn_41 ?_
            refine lv_iload hx hb dX6_sortIn_44 (hL.at 5 rfl) ?_
            refine lv_iconst (v := 1) hx hb dX6_sortIn_46 (by decide) ?_
            refine lv_isub hx hb dX6_sortIn_47 ?_
            rw [show nI (b + 1) - 1 = nI b from nI_pred b]
            refine k_dald hx hb hK hW (by first | assumption | exact up_s | (rw [up_n (by omega)]; first | assumption | exact up_s | (rw [up_n (by omega)]; first | assumption | exact up_s | (rw [up_n (by omega)]; first | assumption | exact up_s | (rw [up_n (by omega)]; first | assumption | exact up_s | (rw [up_n (by omega)]; first | assumption | exact up_s)))))) b (by omega) (by omega) rfl dX6_sortIn_48 ?_
            refine k_dast hx hb hK hW hS (by first | assumption | exact up_s | (rw [up_n (by omega)]; first | assumption | exact up_s | (rw [up_n (by omega)]; first | assumption | exact up_s | (rw [up_n (by omega)]; first | assumption | exact up_s | (rw [up_n (by omega)]; first | assumption | exact up_s | (rw [up_n (by omega)]; first | assumption | exact up_s)))))) (by omega) (b + 1) (by omega) (by omega) rfl dX6_sortIn_49 (fun H locs hW hS => ?_)
            refine lv_aload_n hx hb dX6_sortIn_50 rfl (hL.at 0 rfl) ?_
            refine k_get (ci := 8) (C := RX6) (T := TX6) (N := 11) hx hb hts w_RX6 hown hK hW (by first | assumption | exact up_s | (rw [up_n (by omega)]; first | assumption | exact up_s | (rw [up_n (by omega)]; first | assumption | exact up_s | (rw [up_n (by omega)]; first | assumption | exact up_s | (rw [up_n (by omega)]; first | assumption | exact up_s | (rw [up_n (by omega)]; first | assumption | exact up_s)))))) rfl 0 (by decide) (hq _ q110 rfl) (fun _ h9 => h9) (by rfl) dX6_sortIn_51 ?_
            refine lv_iload hx hb dX6_sortIn_54 (hL.at 5 rfl) ?_
            refine lv_aload_n hx hb dX6_sortIn_56 rfl (hL.at 0 rfl) ?_
            refine k_get (ci := 8) (C := RX6) (T := TX6) (N := 11) hx hb hts w_RX6 hown hK hW (by first | assumption | exact up_s | (rw [up_n (by omega)]; first | assumption | exact up_s | (rw [up_n (by omega)]; first | assumption | exact up_s | (rw [up_n (by omega)]; first | assumption | exact up_s | (rw [up_n (by omega)]; first | assumption | exact up_s | (rw [up_n (by omega)]; first | assumption | exact up_s)))))) rfl 0 (by decide) (hq _ q110 rfl) (fun _ h9 => h9) (by rfl) dX6_sortIn_57 ?_
            refine lv_iload hx hb dX6_sortIn_60 (hL.at 5 rfl) ?_
            refine lv_iconst (v := 1) hx hb dX6_sortIn_62 (by decide) ?_
            refine lv_isub hx hb dX6_sortIn_63 ?_
            rw [show nI (b + 1) - 1 = nI b from nI_pred b]
            refine k_dald hx hb hK hW (by first | assumption | exact up_s | (rw [up_n (by omega)]; first | assumption | exact up_s | (rw [up_n (by omega)]; first | assumption | exact up_s | (rw [up_n (by omega)]; first | assumption | exact up_s | (rw [up_n (by omega)]; first | assumption | exact up_s | (rw [up_n (by omega)]; first | assumption | exact up_s)))))) b (by omega) (by omega) rfl dX6_sortIn_64 ?_
            refine k_dast hx hb hK hW hS (by first | assumption | exact up_s | (rw [up_n (by omega)]; first | assumption | exact up_s | (rw [up_n (by omega)]; first | assumption | exact up_s | (rw [up_n (by omega)]; first | assumption | exact up_s | (rw [up_n (by omega)]; first | assumption | exact up_s | (rw [up_n (by omega)]; first | assumption | exact up_s)))))) (by omega) (b + 1) (by omega) (by omega) rfl dX6_sortIn_65 (fun H locs hW hS => ?_)
            refine k_iinc hx hb hL (i := 5) rfl (by decide) dX6_sortIn_66 (fun ls hL => ?_)
            refine lv_goto (tgt := 16) hx hb dX6_sortIn_69 (by decide) ?_
            rw [show nI (b + 1) + Int32.ofInt (-1) = nI b from pk_m1 b] at hL
            exact ih16 b _ _ _ (by omega) (by omega) ⟨(by first | assumption | exact up_s | (rw [up_n (by omega)]; first | assumption | exact up_s | (rw [up_n (by omega)]; first | assumption | exact up_s | (rw [up_n (by omega)]; first | assumption | exact up_s | (rw [up_n (by omega)]; first | assumption | exact up_s | (rw [up_n (by omega)]; first | assumption | exact up_s)))))), (by first | assumption | exact up_s | (rw [up_n (by omega)]; first | assumption | exact up_s | (rw [up_n (by omega)]; first | assumption | exact up_s | (rw [up_n (by omega)]; first | assumption | exact up_s | (rw [up_n (by omega)]; first | assumption | exact up_s | (rw [up_n (by omega)]; first | assumption | exact up_s)))))), (by first | assumption | exact up_s | (rw [up_n (by omega)]; first | assumption | exact up_s | (rw [up_n (by omega)]; first | assumption | exact up_s | (rw [up_n (by omega)]; first | assumption | exact up_s | (rw [up_n (by omega)]; first | assumption | exact up_s | (rw [up_n (by omega)]; first | assumption | exact up_s)))))), (by first | assumption | exact up_s | (rw [up_n (by omega)]; first | assumption | exact up_s | (rw [up_n (by omega)]; first | assumption | exact up_s | (rw [up_n (by omega)]; first | assumption | exact up_s | (rw [up_n (by omega)]; first | assumption | exact up_s | (rw [up_n (by omega)]; first | assumption | exact up_s)))))), (by first | assumption | exact up_s | (rw [up_n (by omega)]; first | assumption | exact up_s | (rw [up_n (by omega)]; first | assumption | exact up_s | (rw [up_n (by omega)]; first | assumption | exact up_s | (rw [up_n (by omega)]; first | assumption | exact up_s | (rw [up_n (by omega)]; first | assumption | exact up_s))))))⟩ (by repeat (first | assumption | exact kOut.rf | refine kOut.up ?_ (by omega) (by omega))) hki _ _ _ hW hS hL
    exact loop16 (tb.1 + 1) tb.1 fw fl ct (by omega) (Nat.le_refl _) hT kOut.rf rfl _ _ _ hW hS hL
  · try dsimp only at c6
    exact absurd (nI_lt (b := 40) hlaid (by decide)) c6

set_option maxHeartbeats 4000000 in
set_option maxRecDepth 100000 in
/-- TailorBench$Table.putIntoRow  -/
theorem c_intoRow {l : Launch} {D : va_G} {cy : Nat → ClassId} {sad : Nat → Nat} {em : Nat} {s0 : State} {a0 : Array Value} (G : kG kSTR l D cy sad em s0 a0) {ad : Nat → Nat} {ct : Nat → Option va_E} {n : Nat} {cov wd : UInt64} {sp : Nat} {fl fw : Nat → UInt64} {ls0 : tLs} (hT : RepL cy ad ct n cov wd sp fl fw ls0) (room height : UInt64) (hrows : ls0.1 ≤ 40) (hsub : okInto ls0 room) :
    KM l yX6_putIntoRow [.code yX6_putIntoRow prog_8_method_8_code 6 (some .boolean)] 0 0 0 0 [.ref (ad 7), .double room, .double height] D s0 ad ct (fun v ad' ct' => ad' = ad ∧ kOut ct ct' ∧ kOpt cy ad ct' n cov wd sp fl fw ls0 (fInto ls0 room height) v) := by
  refine KM.of G (by decide) (Nat.le_of_ble_eq_true rfl) (Nat.le_of_ble_eq_true rfl) ?_
  intro p e s m args below meth c ls Q hQ X hin hL hW hS
  obtain ⟨hx, hb, hr, hml, hown, hlocks, hts, hq, hK, hI⟩ := X
  obtain ⟨t7, t8, t9, t10, t11⟩ := id hT
  refine lv_iconst (v := 0) hx hb dX6_putIntoRow_0 (by decide) ?_
  refine k_ist hx hb hL (i := 5) (by decide) dX6_putIntoRow_1 (fun ls hL => ?_)
  have loop3 : ∀ (nf : Nat) (i : Nat), ls0.1 - i < nf → i ≤ ls0.1 → fFirst (fRow ls0.2.2.2.1 ls0.2.2.2.2 room height) (ls0.1 - i) i = fFirst (fRow ls0.2.2.2.1 ls0.2.2.2.2 room height) ls0.1 0 → ∀ (H : Heap) (locs : List Loc) (ls : Array Slot), kW D s0.heap.size ad ct H → va_S (kA s0) s.heap H locs → lvP ls 6 [some (.ref (ad 7)), some (.double room), none, some (.double height), none, some (.int (nI i))] → W p l e (krm 0 0 0 0) s m args below meth c H locs 0 0 Q (F0 m 3 ls []) := by
    intro nf
    induction nf with
    | zero => intro i hms3; exact absurd hms3 (Nat.not_lt_zero _)
    | succ nf ih3 =>
      intro i hms3 hi hf H locs ls hW hS hL
      refine lv_iload hx hb dX6_putIntoRow_3 (hL.at 5 rfl) ?_
      refine lv_aload_n hx hb dX6_putIntoRow_5 rfl (hL.at 0 rfl) ?_
      refine k_get (ci := 8) (C := RX6) (T := TX6) (N := 11) hx hb hts w_RX6 hown hK hW (by first | assumption | exact up_s | (rw [up_n (by omega)]; first | assumption | exact up_s | (rw [up_n (by omega)]; first | assumption | exact up_s | (rw [up_n (by omega)]; first | assumption | exact up_s | (rw [up_n (by omega)]; first | assumption | exact up_s | (rw [up_n (by omega)]; first | assumption | exact up_s)))))) rfl 5 (by decide) (hq _ q116 rfl) (fun _ h9 => h9) (by rfl) dX6_putIntoRow_6 ?_
      refine lv_icmp_ge (tgt := 60) hx hb dX6_putIntoRow_9 (by decide) (fun c9 => ?_) (fun c9 => ?_)
      · try dsimp only at c9
        have e0 : i = ls0.1 := by have := (nI_leI (by omega) (by omega)).mp c9; omega
        subst e0
        rw [Nat.sub_self] at hf
        refine lv_iconst (v := 0) hx hb dX6_putIntoRow_60 (by decide) ?_
        rw [hQ]
        exact k_zret hx hb hr hlocks rfl hW hS (by omega) (by omega) dX6_putIntoRow_61 (⟨rfl, kOut.rf, Or.inr ⟨fInto_none hf, rfl, hT⟩⟩)
      · try dsimp only at c9
        have hlt : i < ls0.1 := by
          rcases Nat.lt_or_ge i ls0.1 with q | q
          · exact q
          · exact absurd (nI_le q (by omega)) c9
        obtain ⟨d, hd⟩ : ∃ d, ls0.1 - i = d + 1 := ⟨ls0.1 - i - 1, by omega⟩
        refine lv_aload_n hx hb dX6_putIntoRow_12 rfl (hL.at 0 rfl) ?_
        refine k_get (ci := 8) (C := RX6) (T := TX6) (N := 11) hx hb hts w_RX6 hown hK hW (by first | assumption | exact up_s | (rw [up_n (by omega)]; first | assumption | exact up_s | (rw [up_n (by omega)]; first | assumption | exact up_s | (rw [up_n (by omega)]; first | assumption | exact up_s | (rw [up_n (by omega)]; first | assumption | exact up_s | (rw [up_n (by omega)]; first | assumption | exact up_s)))))) rfl 3 (by decide) (hq _ q113 rfl) (fun _ h9 => h9) (by rfl) dX6_putIntoRow_13 ?_
        refine lv_iload hx hb dX6_putIntoRow_16 (hL.at 5 rfl) ?_
        refine k_dald hx hb hK hW (by first | assumption | exact up_s | (rw [up_n (by omega)]; first | assumption | exact up_s | (rw [up_n (by omega)]; first | assumption | exact up_s | (rw [up_n (by omega)]; first | assumption | exact up_s | (rw [up_n (by omega)]; first | assumption | exact up_s | (rw [up_n (by omega)]; first | assumption | exact up_s)))))) i (by omega) (by omega) rfl dX6_putIntoRow_18 ?_
        refine lv_dload_n hx hb dX6_putIntoRow_19 rfl (hL.at 1 rfl) ?_
        refine lv_dcmp hx hb dX6_putIntoRow_20 ?_
        refine lv_if_lt (tgt := 54) hx hb dX6_putIntoRow_21 (by decide) (fun c21 => ?_) (fun c21 => ?_)
        · rw [cl_lt] at c21
          have hp := fRow_f (fh := ls0.2.2.2.1) (height := height) (Or.inl (fun z : dGe (ls0.2.2.2.2 i) room => z c21))
          refine k_iinc hx hb hL (i := 5) rfl (by decide) dX6_putIntoRow_54 (fun ls hL => ?_)
          refine lv_goto (tgt := 3) hx hb dX6_putIntoRow_57 (by decide) ?_
          rw [show nI i + Int32.ofInt 1 = nI (i + 1) from nI_1 i] at hL
          exact ih3 (i + 1) (by omega) (by omega) (by rw [← hf, hd, fFirst_go _ hp, show ls0.1 - (i + 1) = d by omega]) _ _ _ hW hS hL
        · rw [cl_lt] at c21
          
          refine lv_aload_n hx hb dX6_putIntoRow_24 rfl (hL.at 0 rfl) ?_
          refine k_get (ci := 8) (C := RX6) (T := TX6) (N := 11) hx hb hts w_RX6 hown hK hW (by first | assumption | exact up_s | (rw [up_n (by omega)]; first | assumption | exact up_s | (rw [up_n (by omega)]; first | assumption | exact up_s | (rw [up_n (by omega)]; first | assumption | exact up_s | (rw [up_n (by omega)]; first | assumption | exact up_s | (rw [up_n (by omega)]; first | assumption | exact up_s)))))) rfl 2 (by decide) (hq _ q112 rfl) (fun _ h9 => h9) (by rfl) dX6_putIntoRow_25 ?_
          refine lv_iload hx hb dX6_putIntoRow_28 (hL.at 5 rfl) ?_
          refine k_dald hx hb hK hW (by first | assumption | exact up_s | (rw [up_n (by omega)]; first | assumption | exact up_s | (rw [up_n (by omega)]; first | assumption | exact up_s | (rw [up_n (by omega)]; first | assumption | exact up_s | (rw [up_n (by omega)]; first | assumption | exact up_s | (rw [up_n (by omega)]; first | assumption | exact up_s)))))) i (by omega) (by omega) rfl dX6_putIntoRow_30 ?_
          refine lv_dload_n hx hb dX6_putIntoRow_31 rfl (hL.at 3 rfl) ?_
          refine lv_dcmp hx hb dX6_putIntoRow_32 ?_
          refine lv_if_lt (tgt := 54) hx hb dX6_putIntoRow_33 (by decide) (fun c33 => ?_) (fun c33 => ?_)
          · rw [cl_lt] at c33
            have hp := fRow_f (fr := ls0.2.2.2.2) (room := room) (Or.inr (fun z : dGe (ls0.2.2.2.1 i) height => z c33))
            refine k_iinc hx hb hL (i := 5) rfl (by decide) dX6_putIntoRow_54 (fun ls hL => ?_)
            refine lv_goto (tgt := 3) hx hb dX6_putIntoRow_57 (by decide) ?_
            rw [show nI i + Int32.ofInt 1 = nI (i + 1) from nI_1 i] at hL
            exact ih3 (i + 1) (by omega) (by omega) (by rw [← hf, hd, fFirst_go _ hp, show ls0.1 - (i + 1) = d by omega]) _ _ _ hW hS hL
          · rw [cl_lt] at c33
            have hp := fRow_t c21 c33
            refine lv_aload_n hx hb dX6_putIntoRow_36 rfl (hL.at 0 rfl) ?_
            refine k_get (ci := 8) (C := RX6) (T := TX6) (N := 11) hx hb hts w_RX6 hown hK hW (by first | assumption | exact up_s | (rw [up_n (by omega)]; first | assumption | exact up_s | (rw [up_n (by omega)]; first | assumption | exact up_s | (rw [up_n (by omega)]; first | assumption | exact up_s | (rw [up_n (by omega)]; first | assumption | exact up_s | (rw [up_n (by omega)]; first | assumption | exact up_s)))))) rfl 3 (by decide) (hq _ q113 rfl) (fun _ h9 => h9) (by rfl) dX6_putIntoRow_37 ?_
            refine lv_iload hx hb dX6_putIntoRow_40 (hL.at 5 rfl) ?_
            refine lv_aload_n hx hb dX6_putIntoRow_42 rfl (hL.at 0 rfl) ?_
            refine k_get (ci := 8) (C := RX6) (T := TX6) (N := 11) hx hb hts w_RX6 hown hK hW (by first | assumption | exact up_s | (rw [up_n (by omega)]; first | assumption | exact up_s | (rw [up_n (by omega)]; first | assumption | exact up_s | (rw [up_n (by omega)]; first | assumption | exact up_s | (rw [up_n (by omega)]; first | assumption | exact up_s | (rw [up_n (by omega)]; first | assumption | exact up_s)))))) rfl 3 (by decide) (hq _ q113 rfl) (fun _ h9 => h9) (by rfl) dX6_putIntoRow_43 ?_
            refine lv_iload hx hb dX6_putIntoRow_46 (hL.at 5 rfl) ?_
            refine k_dald hx hb hK hW (by first | assumption | exact up_s | (rw [up_n (by omega)]; first | assumption | exact up_s | (rw [up_n (by omega)]; first | assumption | exact up_s | (rw [up_n (by omega)]; first | assumption | exact up_s | (rw [up_n (by omega)]; first | assumption | exact up_s | (rw [up_n (by omega)]; first | assumption | exact up_s)))))) i (by omega) (by omega) rfl dX6_putIntoRow_48 ?_
            refine lv_dload_n hx hb dX6_putIntoRow_49 rfl (hL.at 1 rfl) ?_
            refine lv_dsub hx hb dX6_putIntoRow_50 (hsub i hlt) ?_
            refine k_dast hx hb hK hW hS (by first | assumption | exact up_s | (rw [up_n (by omega)]; first | assumption | exact up_s | (rw [up_n (by omega)]; first | assumption | exact up_s | (rw [up_n (by omega)]; first | assumption | exact up_s | (rw [up_n (by omega)]; first | assumption | exact up_s | (rw [up_n (by omega)]; first | assumption | exact up_s)))))) (by omega) i (by omega) (by omega) rfl dX6_putIntoRow_51 (fun H locs hW hS => ?_)
            refine lv_iconst (v := 1) hx hb dX6_putIntoRow_52 (by decide) ?_
            rw [hQ]
            exact k_zret hx hb hr hlocks rfl hW hS (by omega) (by omega) dX6_putIntoRow_53 (⟨rfl, (by repeat (first | assumption | exact kOut.rf | refine kOut.up ?_ (by omega) (by omega))), Or.inl ⟨_, fInto_some hlt hd hf hp, rfl, ⟨(by first | assumption | exact up_s | (rw [up_n (by omega)]; first | assumption | exact up_s | (rw [up_n (by omega)]; first | assumption | exact up_s | (rw [up_n (by omega)]; first | assumption | exact up_s | (rw [up_n (by omega)]; first | assumption | exact up_s | (rw [up_n (by omega)]; first | assumption | exact up_s)))))), (by first | assumption | exact up_s | (rw [up_n (by omega)]; first | assumption | exact up_s | (rw [up_n (by omega)]; first | assumption | exact up_s | (rw [up_n (by omega)]; first | assumption | exact up_s | (rw [up_n (by omega)]; first | assumption | exact up_s | (rw [up_n (by omega)]; first | assumption | exact up_s)))))), (by first | assumption | exact up_s | (rw [up_n (by omega)]; first | assumption | exact up_s | (rw [up_n (by omega)]; first | assumption | exact up_s | (rw [up_n (by omega)]; first | assumption | exact up_s | (rw [up_n (by omega)]; first | assumption | exact up_s | (rw [up_n (by omega)]; first | assumption | exact up_s)))))), (by first | assumption | exact up_s | (rw [up_n (by omega)]; first | assumption | exact up_s | (rw [up_n (by omega)]; first | assumption | exact up_s | (rw [up_n (by omega)]; first | assumption | exact up_s | (rw [up_n (by omega)]; first | assumption | exact up_s | (rw [up_n (by omega)]; first | assumption | exact up_s)))))), (by first | assumption | exact up_s | (rw [up_n (by omega)]; first | assumption | exact up_s | (rw [up_n (by omega)]; first | assumption | exact up_s | (rw [up_n (by omega)]; first | assumption | exact up_s | (rw [up_n (by omega)]; first | assumption | exact up_s | (rw [up_n (by omega)]; first | assumption | exact up_s))))))⟩⟩⟩)
  exact loop3 (ls0.1 + 1) 0 (by omega) (Nat.zero_le _) rfl _ _ _ hW hS hL
