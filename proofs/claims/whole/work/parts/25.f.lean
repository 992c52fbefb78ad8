/-! the table, 4 -/
set_option maxHeartbeats 4000000 in
set_option maxRecDepth 100000 in
/-- TailorBench$Table.spread  -/
theorem c_spread1 {l : Launch} {D : va_G} {cy : Nat → ClassId} {sad : Nat → Nat} {em : Nat} {s0 : State} {a0 : Array Value} (G : kG kSTR l D cy sad em s0 a0) {ad : Nat → Nat} {ct : Nat → Option va_E} {M : tM} (hm : RepC cy ad ct M) (ho : okM M) {i : Nat} (hi : i < mO M) {jc : Nat} (hc : jc < mC M) {tb : tTb} {fl fw fh fr : Nat → UInt64} (hT : RepT cy ad ct tb fl fw fh fr) (hok : ∀ j, j < (mst M (oS (mod M i))).1 → okGath (mpe M (oP (mod M i))) (fLeft (mcl M jc).2.2.1) ((mst M (oS (mod M i))).2.1 j)) {bt : Bool} (hbt : bt = decide ((mcl M jc).2.2.2.2.1 = 0)) (hrun : okRun (mcl M jc).1 (mcl M jc).2.2.2.1 bt (gOrd (mpe M (oP (mod M i))) (fLeft (mcl M jc).2.2.1) (mst M (oS (mod M i))).2.1 (mst M (oS (mod M i))).1 0 (0, fw, fl)).2.1 (gOrd (mpe M (oP (mod M i))) (fLeft (mcl M jc).2.2.1) (mst M (oS (mod M i))).2.1 (mst M (oS (mod M i))).1 0 (0, fw, fl)).2.2 (gOrd (mpe M (oP (mod M i))) (fLeft (mcl M jc).2.2.1) (mst M (oS (mod M i))).2.1 (mst M (oS (mod M i))).1 0 (0, fw, fl)).1 0 cD0 (0, 0, cD0, fh, fr)) :
    KM l yX6_spread [.code yX6_spread prog_8_method_2_code 5 (some .boolean)] 4 95 0 0 [.ref (ad 7), .ref (ad (64 + i)), .null, .ref (ad (16 + jc))] D s0 ad ct (fun v ad' ct' => ad' = ad ∧ kOut ct ct' ∧ kSpr cy ad ct' (mcl M jc).1 (mcl M jc).2.2.2.1 (gOrd (mpe M (oP (mod M i))) (fLeft (mcl M jc).2.2.1) (mst M (oS (mod M i))).2.1 (mst M (oS (mod M i))).1 0 (0, fw, fl)) (fLay (mcl M jc).1 (mcl M jc).2.2.2.1 bt (gOrd (mpe M (oP (mod M i))) (fLeft (mcl M jc).2.2.1) (mst M (oS (mod M i))).2.1 (mst M (oS (mod M i))).1 0 (0, fw, fl)).2.1 (gOrd (mpe M (oP (mod M i))) (fLeft (mcl M jc).2.2.1) (mst M (oS (mod M i))).2.1 (mst M (oS (mod M i))).1 0 (0, fw, fl)).2.2 (gOrd (mpe M (oP (mod M i))) (fLeft (mcl M jc).2.2.1) (mst M (oS (mod M i))).2.1 (mst M (oS (mod M i))).1 0 (0, fw, fl)).1 0 cD0 (0, 0, cD0, fh, fr)) v) := by
  refine KM.of G (by decide) (Nat.le_of_ble_eq_true rfl) (Nat.le_of_ble_eq_true rfl) ?_
  intro p e s m args below meth c ls Q hQ X hin hL hW hS
  obtain ⟨hx, hb, hr, hml, hown, hlocks, hts, hq, hK, hI⟩ := X
  obtain ⟨t7, t8, t9, t10, t11⟩ := id hT
  have hC := hm.2.2.1 jc hc
  obtain ⟨hkc, hksp, hknap, -⟩ := ho.2.1 jc hc
  obtain ⟨oo, ob, os, oa, op, ow, oms, o5, ok, opos, ost⟩ := hm.ord ho hi
  have h20 := fCnt_20 o5 ok
  refine lv_aload_n hx hb dX6_spread_0 rfl (hL.at 0 rfl) ?_
  refine lv_iconst (v := 0) hx hb dX6_spread_1 (by decide) ?_
  refine k_put (ci := 8) (C := RX6) (T := TX6) (N := 11) (ty := tyX6 4) hx hb hts w_RX6 tyX6 tyX6_ok nmX6 hown hK hW hS (by first | assumption | exact up_s | (rw [up_n (by omega)]; first | assumption | exact up_s | (rw [up_n (by omega)]; first | assumption | exact up_s | (rw [up_n (by omega)]; first | assumption | exact up_s | (rw [up_n (by omega)]; first | assumption | exact up_s | (rw [up_n (by omega)]; first | assumption | exact up_s)))))) (by omega) rfl 4 (by decide) (hq _ q114 rfl) (fun _ h9 => h9) rfl (by decide +kernel) rfl rfl (by first | exact Nat.le_of_ble_eq_true rfl | (simp only [List.length_set]; exact Nat.le_of_ble_eq_true rfl)) dX6_spread_2 (fun H locs hW hS => ?_)
  refine lv_aload_n hx hb dX6_spread_5 rfl (hL.at 0 rfl) ?_
  refine lv_iconst (v := 0) hx hb dX6_spread_6 (by decide) ?_
  refine k_put (ci := 8) (C := RX6) (T := TX6) (N := 11) (ty := tyX6 5) hx hb hts w_RX6 tyX6 tyX6_ok nmX6 hown hK hW hS (by first | assumption | exact up_s | (rw [up_n (by omega)]; first | assumption | exact up_s | (rw [up_n (by omega)]; first | assumption | exact up_s | (rw [up_n (by omega)]; first | assumption | exact up_s | (rw [up_n (by omega)]; first | assumption | exact up_s | (rw [up_n (by omega)]; first | assumption | exact up_s)))))) (by omega) rfl 5 (by decide) (hq _ q116 rfl) (fun _ h9 => h9) rfl (by decide +kernel) rfl rfl (by first | exact Nat.le_of_ble_eq_true rfl | (simp only [List.length_set]; exact Nat.le_of_ble_eq_true rfl)) dX6_spread_7 (fun H locs hW hS => ?_)
  refine lv_aload_n hx hb dX6_spread_10 rfl (hL.at 0 rfl) ?_
  refine lv_iconst (v := 0) hx hb dX6_spread_11 (by decide) ?_
  refine k_put (ci := 8) (C := RX6) (T := TX6) (N := 11) (ty := tyX6 6) hx hb hts w_RX6 tyX6 tyX6_ok nmX6 hown hK hW hS (by first | assumption | exact up_s | (rw [up_n (by omega)]; first | assumption | exact up_s | (rw [up_n (by omega)]; first | assumption | exact up_s | (rw [up_n (by omega)]; first | assumption | exact up_s | (rw [up_n (by omega)]; first | assumption | exact up_s | (rw [up_n (by omega)]; first | assumption | exact up_s)))))) (by omega) rfl 6 (by decide) (hq _ q118 rfl) (fun _ h9 => h9) rfl (by decide +kernel) rfl rfl (by first | exact Nat.le_of_ble_eq_true rfl | (simp only [List.length_set]; exact Nat.le_of_ble_eq_true rfl)) dX6_spread_12 (fun H locs hW hS => ?_)
  refine lv_aload_n hx hb dX6_spread_15 rfl (hL.at 0 rfl) ?_
  refine lv_dconst0 hx hb dX6_spread_16 ?_
  refine k_put (ci := 8) (C := RX6) (T := TX6) (N := 11) (ty := tyX6 7) hx hb hts w_RX6 tyX6 tyX6_ok nmX6 hown hK hW hS (by first | assumption | exact up_s | (rw [up_n (by omega)]; first | assumption | exact up_s | (rw [up_n (by omega)]; first | assumption | exact up_s | (rw [up_n (by omega)]; first | assumption | exact up_s | (rw [up_n (by omega)]; first | assumption | exact up_s | (rw [up_n (by omega)]; first | assumption | exact up_s)))))) (by omega) rfl 7 (by decide) (hq _ q120 rfl) (fun _ h9 => h9) rfl (by decide +kernel) rfl rfl (by first | exact Nat.le_of_ble_eq_true rfl | (simp only [List.length_set]; exact Nat.le_of_ble_eq_true rfl)) dX6_spread_17 (fun H locs hW hS => ?_)
  refine lv_aload_n hx hb dX6_spread_20 rfl (hL.at 0 rfl) ?_
  refine lv_dconst0 hx hb dX6_spread_21 ?_
  refine k_put (ci := 8) (C := RX6) (T := TX6) (N := 11) (ty := tyX6 8) hx hb hts w_RX6 tyX6 tyX6_ok nmX6 hown hK hW hS (by first | assumption | exact up_s | (rw [up_n (by omega)]; first | assumption | exact up_s | (rw [up_n (by omega)]; first | assumption | exact up_s | (rw [up_n (by omega)]; first | assumption | exact up_s | (rw [up_n (by omega)]; first | assumption | exact up_s | (rw [up_n (by omega)]; first | assumption | exact up_s)))))) (by omega) rfl 8 (by decide) (hq _ q122 rfl) (fun _ h9 => h9) rfl (by decide +kernel) rfl rfl (by first | exact Nat.le_of_ble_eq_true rfl | (simp only [List.length_set]; exact Nat.le_of_ble_eq_true rfl)) dX6_spread_22 (fun H locs hW hS => ?_)
  refine lv_aload_n hx hb dX6_spread_25 rfl (hL.at 0 rfl) ?_
  refine lv_aload_n hx hb dX6_spread_26 rfl (hL.at 3 rfl) ?_
  refine k_getN (ci := 2) (C := RX0) (T := TX0) (N := 6) hx hb hts w_RX0 hown hK hW (by first | assumption | exact up_s | (rw [up_n (by omega)]; first | assumption | exact up_s | (rw [up_n (by omega)]; first | assumption | exact up_s | (rw [up_n (by omega)]; first | assumption | exact up_s | (rw [up_n (by omega)]; first | assumption | exact up_s | (rw [up_n (by omega)]; first | assumption | exact up_s)))))) rfl 3 (by decide) (hq _ q479 rfl) (fun _ h9 => h9) (by rfl) dX6_spread_27 ?_
  refine k_put (ci := 8) (C := RX6) (T := TX6) (N := 11) (ty := tyX6 9) hx hb hts w_RX6 tyX6 tyX6_ok nmX6 hown hK hW hS (by first | assumption | exact up_s | (rw [up_n (by omega)]; first | assumption | exact up_s | (rw [up_n (by omega)]; first | assumption | exact up_s | (rw [up_n (by omega)]; first | assumption | exact up_s | (rw [up_n (by omega)]; first | assumption | exact up_s | (rw [up_n (by omega)]; first | assumption | exact up_s)))))) (by omega) rfl 9 (by decide) (hq _ q123 rfl) (fun _ h9 => h9) rfl (by decide +kernel) rfl rfl (by first | exact Nat.le_of_ble_eq_true rfl | (simp only [List.length_set]; exact Nat.le_of_ble_eq_true rfl)) dX6_spread_30 (fun H locs hW hS => ?_)
  refine lv_aload_n hx hb dX6_spread_33 rfl (hL.at 0 rfl) ?_
  refine lv_aload_n hx hb dX6_spread_34 rfl (hL.at 3 rfl) ?_
  refine k_getN (ci := 2) (C := RX0) (T := TX0) (N := 6) hx hb hts w_RX0 hown hK hW (by first | assumption | exact up_s | (rw [up_n (by omega)]; first | assumption | exact up_s | (rw [up_n (by omega)]; first | assumption | exact up_s | (rw [up_n (by omega)]; first | assumption | exact up_s | (rw [up_n (by omega)]; first | assumption | exact up_s | (rw [up_n (by omega)]; first | assumption | exact up_s)))))) rfl 0 (by decide) (hq _ q471 rfl) (fun _ h9 => h9) (by rfl) dX6_spread_35 ?_
  refine k_put (ci := 8) (C := RX6) (T := TX6) (N := 11) (ty := tyX6 10) hx hb hts w_RX6 tyX6 tyX6_ok nmX6 hown hK hW hS (by first | assumption | exact up_s | (rw [up_n (by omega)]; first | assumption | exact up_s | (rw [up_n (by omega)]; first | assumption | exact up_s | (rw [up_n (by omega)]; first | assumption | exact up_s | (rw [up_n (by omega)]; first | assumption | exact up_s | (rw [up_n (by omega)]; first | assumption | exact up_s)))))) (by omega) rfl 10 (by decide) (hq _ q124 rfl) (fun _ h9 => h9) rfl (by decide +kernel) rfl rfl (by first | exact Nat.le_of_ble_eq_true rfl | (simp only [List.length_set]; exact Nat.le_of_ble_eq_true rfl)) dX6_spread_38 (fun H locs hW hS => ?_)
  refine lv_aload_n hx hb dX6_spread_41 rfl (hL.at 0 rfl) ?_
  refine lv_aload_n hx hb dX6_spread_42 rfl (hL.at 1 rfl) ?_
  refine lv_aload_n hx hb dX6_spread_43 rfl (hL.at 3 rfl) ?_
  refine k_callV (q := (RX6, TX6, 11)) hx hb hml hown hts hK hI hS hW hL.1 (by first | assumption | exact up_s | (rw [up_n (by omega)]; first | assumption | exact up_s | (rw [up_n (by omega)]; first | assumption | exact up_s | (rw [up_n (by omega)]; first | assumption | exact up_s | (rw [up_n (by omega)]; first | assumption | exact up_s | (rw [up_n (by omega)]; first | assumption | exact up_s)))))) rfl (c_gather G (hm.out ho (by repeat (first | assumption | exact kOut.rf | refine kOut.up ?_ (by omega) (by omega)))) ho hi hc (tb := (0, 0, 0, cD0, cD0, (mcl M jc).1, (mcl M jc).2.2.2.1)) (show RepT cy ad _ _ fl fw fh fr from ⟨(by first | assumption | exact up_s | (rw [up_n (by omega)]; first | assumption | exact up_s | (rw [up_n (by omega)]; first | assumption | exact up_s | (rw [up_n (by omega)]; first | assumption | exact up_s | (rw [up_n (by omega)]; first | assumption | exact up_s | (rw [up_n (by omega)]; first | assumption | exact up_s)))))), (by first | assumption | exact up_s | (rw [up_n (by omega)]; first | assumption | exact up_s | (rw [up_n (by omega)]; first | assumption | exact up_s | (rw [up_n (by omega)]; first | assumption | exact up_s | (rw [up_n (by omega)]; first | assumption | exact up_s | (rw [up_n (by omega)]; first | assumption | exact up_s)))))), (by first | assumption | exact up_s | (rw [up_n (by omega)]; first | assumption | exact up_s | (rw [up_n (by omega)]; first | assumption | exact up_s | (rw [up_n (by omega)]; first | assumption | exact up_s | (rw [up_n (by omega)]; first | assumption | exact up_s | (rw [up_n (by omega)]; first | assumption | exact up_s)))))), (by first | assumption | exact up_s | (rw [up_n (by omega)]; first | assumption | exact up_s | (rw [up_n (by omega)]; first | assumption | exact up_s | (rw [up_n (by omega)]; first | assumption | exact up_s | (rw [up_n (by omega)]; first | assumption | exact up_s | (rw [up_n (by omega)]; first | assumption | exact up_s)))))), (by first | assumption | exact up_s | (rw [up_n (by omega)]; first | assumption | exact up_s | (rw [up_n (by omega)]; first | assumption | exact up_s | (rw [up_n (by omega)]; first | assumption | exact up_s | (rw [up_n (by omega)]; first | assumption | exact up_s | (rw [up_n (by omega)]; first | assumption | exact up_s))))))⟩) hok (show 0 + _ ≤ 40 by omega)) (m5 (gT_in q366 rfl) (gT_in q368 rfl) (gT_in q8 rfl) (gT_in q56 rfl) (gT_in q369 rfl)) rfl (show kpar yX6_gather 2 from ⟨by decide, by decide, by decide +kernel⟩) ⟨by decide, by decide⟩ (by show _ ≤ (0 : Nat); omega) (by show _ ≤ (0 : Nat); omega) rfl (by decide) dX6_spread_44 (fun v ad44 ct44 H locs hp hW hS => ?_)
  obtain ⟨rfl, h1, hk44, hT44⟩ := hp
  rw [h1] at hW
  have hko44 : kOut ct ct44 := kOut.tr (by repeat (first | assumption | exact kOut.rf | refine kOut.up ?_ (by omega) (by omega))) hk44
  have hm44 := hm.out ho hko44
  obtain ⟨t7, t8, t9, t10, t11⟩ := id hT44
  have hg1 := gOrd_n0 (mpe M (oP (mod M i))) (fLeft (mcl M jc).2.2.1) (mst M (oS (mod M i))).2.1 (mst M (oS (mod M i))).1 (0, fw, fl)
  have hg1 : (gOrd (mpe M (oP (mod M i))) (fLeft (mcl M jc).2.2.1) (mst M (oS (mod M i))).2.1 (mst M (oS (mod M i))).1 0 (0, fw, fl)).1 = 0 + fCnt (mst M (oS (mod M i))).2.1 (mst M (oS (mod M i))).1 := hg1
  obtain ⟨gg, hgg⟩ : ∃ z, z = (gOrd (mpe M (oP (mod M i))) (fLeft (mcl M jc).2.2.1) (mst M (oS (mod M i))).2.1 (mst M (oS (mod M i))).1 0 (0, fw, fl)) := ⟨_, rfl⟩
  rw [← hgg] at hrun hQ hT44
  have hg40 : gg.1 ≤ 40 := by rw [hgg]; omega
  refine lv_aload_nN hx hb dX6_spread_47 rfl (hL.at 2 rfl) ?_
  refine lv_ifnullN (tgt := 57) hx hb dX6_spread_48 (by decide) ?_
  refine lv_iconst (v := 0) hx hb dX6_spread_57 (by decide) ?_
  refine k_ist hx hb hL (i := 4) (by decide) dX6_spread_58 (fun ls hL => ?_)
  have loop60 : ∀ (nf : Nat) (j : Nat) (cov1 : UInt64) (s1 : tLs) (ct1 : Nat → Option va_E), gg.1 - j < nf → j ≤ gg.1 → fLay (mcl M jc).1 (mcl M jc).2.2.2.1 bt gg.2.1 gg.2.2 (gg.1 - j) j cov1 s1 = fLay (mcl M jc).1 (mcl M jc).2.2.2.1 bt gg.2.1 gg.2.2 gg.1 0 cD0 (0, 0, cD0, fh, fr) → okRun (mcl M jc).1 (mcl M jc).2.2.2.1 bt gg.2.1 gg.2.2 (gg.1 - j) j cov1 s1 → RepL cy ad ct1 gg.1 cov1 (mcl M jc).1 (mcl M jc).2.2.2.1 gg.2.2 gg.2.1 s1 → kOut ct ct1 → ∀ (H : Heap) (locs : List Loc) (ls : Array Slot), kW D s0.heap.size ad ct1 H → va_S (kA s0) s.heap H locs → lvP ls 5 [some (.ref (ad 7)), some (.ref (ad (64 + i))), some .null, some (.ref (ad (16 + jc))), some (.int (nI j))] → W p l e (krm 4 95 0 0) s m args below meth c H locs 0 0 Q (F0 m 60 ls []) := by
    intro nf
    induction nf with
    | zero => intro j cov1 s1 ct1 hms60; exact absurd hms60 (Nat.not_lt_zero _)
    | succ nf ih60 =>
      intro j cov1 s1 ct1 hms60 hj hl hr2 hTl hko1 H locs ls hW hS hL
      have hC1 := (hm.out ho hko1).2.2.1 jc hc
      obtain ⟨t7, t8, t9, t10, t11⟩ := id hTl
      refine lv_iload hx hb dX6_spread_60 (hL.at 4 rfl) ?_
      refine lv_aload_n hx hb dX6_spread_62 rfl (hL.at 0 rfl) ?_
      refine k_get (ci := 8) (C := RX6) (T := TX6) (N := 11) hx hb hts w_RX6 hown hK hW (by first | assumption | exact up_s | (rw [up_n (by omega)]; first | assumption | exact up_s | (rw [up_n (by omega)]; first | assumption | exact up_s | (rw [up_n (by omega)]; first | assumption | exact up_s | (rw [up_n (by omega)]; first | assumption | exact up_s | (rw [up_n (by omega)]; first | assumption | exact up_s)))))) rfl 4 (by decide) (hq _ q114 rfl) (fun _ h9 => h9) (by rfl) dX6_spread_63 ?_
      refine lv_icmp_ge (tgt := 134) hx hb dX6_spread_66 (by decide) (fun c66 => ?_) (fun c66 => ?_)
      · try dsimp only at c66
        have ej : j = gg.1 := by have := (nI_leI (by omega) (by omega)).mp c66; omega
        refine lv_iconst (v := 1) hx hb dX6_spread_134 (by decide) ?_
        rw [hQ]
        exact k_zret hx hb hr hlocks rfl hW hS (by omega) (by omega) dX6_spread_135 (⟨rfl, hko1, Or.inl ⟨(cov1, s1), by rw [← hl, ej, Nat.sub_self]; rfl, rfl, hTl⟩⟩)
      · try dsimp only at c66
        have hlt : j < gg.1 := by
          rcases Nat.lt_or_ge j gg.1 with q | q
          · exact q
          · exact absurd (nI_le q (by omega)) c66
        obtain ⟨d, hd⟩ : ∃ d, gg.1 - j = d + 1 := ⟨gg.1 - j - 1, by omega⟩
        rw [hd] at hr2 hl
        obtain ⟨hokp, hmul, hadd, hnext⟩ := hr2
        refine lv_aload_n hx hb dX6_spread_69 rfl (hL.at 0 rfl) ?_
        refine lv_aload_n hx hb dX6_spread_70 rfl (hL.at 0 rfl) ?_
        refine k_get (ci := 8) (C := RX6) (T := TX6) (N := 11) hx hb hts w_RX6 hown hK hW (by first | assumption | exact up_s | (rw [up_n (by omega)]; first | assumption | exact up_s | (rw [up_n (by omega)]; first | assumption | exact up_s | (rw [up_n (by omega)]; first | assumption | exact up_s | (rw [up_n (by omega)]; first | assumption | exact up_s | (rw [up_n (by omega)]; first | assumption | exact up_s)))))) rfl 1 (by decide) (hq _ q111 rfl) (fun _ h9 => h9) (by rfl) dX6_spread_71 ?_
        refine lv_iload hx hb dX6_spread_74 (hL.at 4 rfl) ?_
        refine k_dald hx hb hK hW (by first | assumption | exact up_s | (rw [up_n (by omega)]; first | assumption | exact up_s | (rw [up_n (by omega)]; first | assumption | exact up_s | (rw [up_n (by omega)]; first | assumption | exact up_s | (rw [up_n (by omega)]; first | assumption | exact up_s | (rw [up_n (by omega)]; first | assumption | exact up_s)))))) j (by omega) (by omega) rfl dX6_spread_76 ?_
        refine lv_aload_n hx hb dX6_spread_77 rfl (hL.at 0 rfl) ?_
        refine k_get (ci := 8) (C := RX6) (T := TX6) (N := 11) hx hb hts w_RX6 hown hK hW (by first | assumption | exact up_s | (rw [up_n (by omega)]; first | assumption | exact up_s | (rw [up_n (by omega)]; first | assumption | exact up_s | (rw [up_n (by omega)]; first | assumption | exact up_s | (rw [up_n (by omega)]; first | assumption | exact up_s | (rw [up_n (by omega)]; first | assumption | exact up_s)))))) rfl 0 (by decide) (hq _ q110 rfl) (fun _ h9 => h9) (by rfl) dX6_spread_78 ?_
        refine lv_iload hx hb dX6_spread_81 (hL.at 4 rfl) ?_
        refine k_dald hx hb hK hW (by first | assumption | exact up_s | (rw [up_n (by omega)]; first | assumption | exact up_s | (rw [up_n (by omega)]; first | assumption | exact up_s | (rw [up_n (by omega)]; first | assumption | exact up_s | (rw [up_n (by omega)]; first | assumption | exact up_s | (rw [up_n (by omega)]; first | assumption | exact up_s)))))) j (by omega) (by omega) rfl dX6_spread_83 ?_
        refine lv_aload_n hx hb dX6_spread_84 rfl (hL.at 3 rfl) ?_
        refine k_getN (ci := 2) (C := RX0) (T := TX0) (N := 6) hx hb hts w_RX0 hown hK hW (by first | assumption | exact up_s | (rw [up_n (by omega)]; first | assumption | exact up_s | (rw [up_n (by omega)]; first | assumption | exact up_s | (rw [up_n (by omega)]; first | assumption | exact up_s | (rw [up_n (by omega)]; first | assumption | exact up_s | (rw [up_n (by omega)]; first | assumption | exact up_s)))))) rfl 1 (by decide) (hq _ q474 rfl) (fun _ h9 => h9) (by rfl) dX6_spread_85 ?_
        refine lv_if_ne (tgt := 95) hx hb dX6_spread_88 (by decide) (fun c88 => ?_) (fun c88 => ?_)
        · try dsimp only at c88
          refine lv_iconst (v := 0) hx hb dX6_spread_95 (by decide) ?_
          refine lv_topi (fun y hy => ?_)
          have hy2 : y = if bt then 1 else 0 := by rw [hy, hbt, decide_eq_false c88]; rfl
          subst hy2
          refine k_callV (q := (RX6, TX6, 11)) hx hb hml hown hts hK hI hS hW hL.1 (by first | assumption | exact up_s | (rw [up_n (by omega)]; first | assumption | exact up_s | (rw [up_n (by omega)]; first | assumption | exact up_s | (rw [up_n (by omega)]; first | assumption | exact up_s | (rw [up_n (by omega)]; first | assumption | exact up_s | (rw [up_n (by omega)]; first | assumption | exact up_s)))))) rfl (c_put G hTl (gg.2.1 j) (gg.2.2 j) bt hksp hokp) (m5 (gT_in q389 rfl) (gT_in q391 rfl) (gT_in q13 rfl) (gT_in q56 rfl) (gT_in q392 rfl)) rfl (show kpar yX6_put 3 from ⟨by decide, by decide, by decide +kernel⟩) ⟨by decide, by decide⟩ (by show _ ≤ (0 : Nat); omega) (by show _ ≤ (0 : Nat); omega) rfl (by decide) dX6_spread_96 (fun v ad96 ct96 H locs hp hW hS => ?_)
          obtain ⟨h1, hk96, hc96⟩ := hp
          rw [h1] at hW
          rcases hc96 with ⟨s96, e96, rfl, hT96⟩ | ⟨e96, rfl, hT96⟩
          · obtain ⟨t7, t8, t9, t10, t11⟩ := id hT96
            refine lv_if_ne (tgt := 104) hx hb dX6_spread_99 (by decide) (fun c99 => ?_) (fun c99 => ?_)
            · try dsimp only at c99
              refine lv_aload_n hx hb dX6_spread_104 rfl (hL.at 0 rfl) ?_
              refine lv_aload_n hx hb dX6_spread_105 rfl (hL.at 0 rfl) ?_
              refine k_get (ci := 8) (C := RX6) (T := TX6) (N := 11) hx hb hts w_RX6 hown hK hW (by first | assumption | exact up_s | (rw [up_n (by omega)]; first | assumption | exact up_s | (rw [up_n (by omega)]; first | assumption | exact up_s | (rw [up_n (by omega)]; first | assumption | exact up_s | (rw [up_n (by omega)]; first | assumption | exact up_s | (rw [up_n (by omega)]; first | assumption | exact up_s)))))) rfl 8 (by decide) (hq _ q122 rfl) (fun _ h9 => h9) (by rfl) dX6_spread_106 ?_
              refine lv_aload_n hx hb dX6_spread_109 rfl (hL.at 0 rfl) ?_
              refine k_get (ci := 8) (C := RX6) (T := TX6) (N := 11) hx hb hts w_RX6 hown hK hW (by first | assumption | exact up_s | (rw [up_n (by omega)]; first | assumption | exact up_s | (rw [up_n (by omega)]; first | assumption | exact up_s | (rw [up_n (by omega)]; first | assumption | exact up_s | (rw [up_n (by omega)]; first | assumption | exact up_s | (rw [up_n (by omega)]; first | assumption | exact up_s)))))) rfl 1 (by decide) (hq _ q111 rfl) (fun _ h9 => h9) (by rfl) dX6_spread_110 ?_
              refine lv_iload hx hb dX6_spread_113 (hL.at 4 rfl) ?_
              refine k_dald hx hb hK hW (by first | assumption | exact up_s | (rw [up_n (by omega)]; first | assumption | exact up_s | (rw [up_n (by omega)]; first | assumption | exact up_s | (rw [up_n (by omega)]; first | assumption | exact up_s | (rw [up_n (by omega)]; first | assumption | exact up_s | (rw [up_n (by omega)]; first | assumption | exact up_s)))))) j (by omega) (by omega) rfl dX6_spread_115 ?_
              refine lv_aload_n hx hb dX6_spread_116 rfl (hL.at 0 rfl) ?_
              refine k_get (ci := 8) (C := RX6) (T := TX6) (N := 11) hx hb hts w_RX6 hown hK hW (by first | assumption | exact up_s | (rw [up_n (by omega)]; first | assumption | exact up_s | (rw [up_n (by omega)]; first | assumption | exact up_s | (rw [up_n (by omega)]; first | assumption | exact up_s | (rw [up_n (by omega)]; first | assumption | exact up_s | (rw [up_n (by omega)]; first | assumption | exact up_s)))))) rfl 0 (by decide) (hq _ q110 rfl) (fun _ h9 => h9) (by rfl) dX6_spread_117 ?_
              refine lv_iload hx hb dX6_spread_120 (hL.at 4 rfl) ?_
              refine k_dald hx hb hK hW (by first | assumption | exact up_s | (rw [up_n (by omega)]; first | assumption | exact up_s | (rw [up_n (by omega)]; first | assumption | exact up_s | (rw [up_n (by omega)]; first | assumption | exact up_s | (rw [up_n (by omega)]; first | assumption | exact up_s | (rw [up_n (by omega)]; first | assumption | exact up_s)))))) j (by omega) (by omega) rfl dX6_spread_122 ?_
              refine lv_dmul hx hb dX6_spread_123 hmul ?_
              refine lv_dadd hx hb dX6_spread_124 hadd ?_
              refine k_put (ci := 8) (C := RX6) (T := TX6) (N := 11) (ty := tyX6 8) hx hb hts w_RX6 tyX6 tyX6_ok nmX6 hown hK hW hS (by first | assumption | exact up_s | (rw [up_n (by omega)]; first | assumption | exact up_s | (rw [up_n (by omega)]; first | assumption | exact up_s | (rw [up_n (by omega)]; first | assumption | exact up_s | (rw [up_n (by omega)]; first | assumption | exact up_s | (rw [up_n (by omega)]; first | assumption | exact up_s)))))) (by omega) rfl 8 (by decide) (hq _ q122 rfl) (fun _ h9 => h9) rfl (by decide +kernel) rfl rfl (by first | exact Nat.le_of_ble_eq_true rfl | (simp only [List.length_set]; exact Nat.le_of_ble_eq_true rfl)) dX6_spread_125 (fun H locs hW hS => ?_)
              refine k_iinc hx hb hL (i := 4) rfl (by decide) dX6_spread_128 (fun ls hL => ?_)
              refine lv_goto (tgt := 60) hx hb dX6_spread_131 (by decide) ?_
              rw [show nI j + Int32.ofInt 1 = nI (j + 1) from nI_1 j] at hL
              exact ih60 (j + 1) _ s96 _ (by omega) (by omega) (by rw [← hl, fLay_go e96, show gg.1 - (j + 1) = d by omega]) (by rw [show gg.1 - (j + 1) = d by omega]; exact hnext _ e96) ⟨(by first | assumption | exact up_s | (rw [up_n (by omega)]; first | assumption | exact up_s | (rw [up_n (by omega)]; first | assumption | exact up_s | (rw [up_n (by omega)]; first | assumption | exact up_s | (rw [up_n (by omega)]; first | assumption | exact up_s | (rw [up_n (by omega)]; first | assumption | exact up_s)))))), (by first | assumption | exact up_s | (rw [up_n (by omega)]; first | assumption | exact up_s | (rw [up_n (by omega)]; first | assumption | exact up_s | (rw [up_n (by omega)]; first | assumption | exact up_s | (rw [up_n (by omega)]; first | assumption | exact up_s | (rw [up_n (by omega)]; first | assumption | exact up_s)))))), (by first | assumption | exact up_s | (rw [up_n (by omega)]; first | assumption | exact up_s | (rw [up_n (by omega)]; first | assumption | exact up_s | (rw [up_n (by omega)]; first | assumption | exact up_s | (rw [up_n (by omega)]; first | assumption | exact up_s | (rw [up_n (by omega)]; first | assumption | exact up_s)))))), (by first | assumption | exact up_s | (rw [up_n (by omega)]; first | assumption | exact up_s | (rw [up_n (by omega)]; first | assumption | exact up_s | (rw [up_n (by omega)]; first | assumption | exact up_s | (rw [up_n (by omega)]; first | assumption | exact up_s | (rw [up_n (by omega)]; first | assumption | exact up_s)))))), (by first | assumption | exact up_s | (rw [up_n (by omega)]; first | assumption | exact up_s | (rw [up_n (by omega)]; first | assumption | exact up_s | (rw [up_n (by omega)]; first | assumption | exact up_s | (rw [up_n (by omega)]; first | assumption | exact up_s | (rw [up_n (by omega)]; first | assumption | exact up_s))))))⟩ ((hko1.tr hk96).up (by omega) (by omega)) _ _ _ hW hS hL
            · try dsimp only at c99
              exact absurd c99 (by decide)
          · refine lv_if_ne (tgt := 104) hx hb dX6_spread_99 (by decide) (fun c99 => ?_) (fun c99 => ?_)
            · try dsimp only at c99
              exact absurd c99 (by decide)
            · try dsimp only at c99
              refine lv_iconst (v := 0) hx hb dX6_spread_102 (by decide) ?_
              rw [hQ]
              exact k_zret hx hb hr hlocks rfl hW hS (by omega) (by omega) dX6_spread_103 (⟨rfl, hko1.tr hk96, Or.inr ⟨by rw [← hl]; exact fLay_no e96, rfl, cov1, s1, hT96⟩⟩)
        · try dsimp only at c88
          refine lv_iconst (v := 1) hx hb dX6_spread_91 (by decide) ?_
          refine lv_topi (fun y hy => ?_)
          have hy2 : y = if bt then 1 else 0 := by rw [hy, hbt, decide_eq_true c88]; rfl
          subst hy2
          refine lv_goto (tgt := 96) hx hb dX6_spread_92 (by decide) ?_
          refine k_callV (q := (RX6, TX6, 11)) hx hb hml hown hts hK hI hS hW hL.1 (by first | assumption | exact up_s | (rw [up_n (by omega)]; first | assumption | exact up_s | (rw [up_n (by omega)]; first | assumption | exact up_s | (rw [up_n (by omega)]; first | assumption | exact up_s | (rw [up_n (by omega)]; first | assumption | exact up_s | (rw [up_n (by omega)]; first | assumption | exact up_s)))))) rfl (c_put G hTl (gg.2.1 j) (gg.2.2 j) bt hksp hokp) (m5 (gT_in q389 rfl) (gT_in q391 rfl) (gT_in q13 rfl) (gT_in q56 rfl) (gT_in q392 rfl)) rfl (show kpar yX6_put 3 from ⟨by decide, by decide, by decide +kernel⟩) ⟨by decide, by decide⟩ (by show _ ≤ (0 : Nat); omega) (by show _ ≤ (0 : Nat); omega) rfl (by decide) dX6_spread_96 (fun v ad96 ct96 H locs hp hW hS => ?_)
          obtain ⟨h1, hk96, hc96⟩ := hp
          rw [h1] at hW
          rcases hc96 with ⟨s96, e96, rfl, hT96⟩ | ⟨e96, rfl, hT96⟩
          · obtain ⟨t7, t8, t9, t10, t11⟩ := id hT96
            refine lv_if_ne (tgt := 104) hx hb dX6_spread_99 (by decide) (fun c99 => ?_) (fun c99 => ?_)
            · try dsimp only at c99
              refine lv_aload_n hx hb dX6_spread_104 rfl (hL.at 0 rfl) ?_
              refine lv_aload_n hx hb dX6_spread_105 rfl (hL.at 0 rfl) ?_
              refine k_get (ci := 8) (C := RX6) (T := TX6) (N := 11) hx hb hts w_RX6 hown hK hW (by first | assumption | exact up_s | (rw [up_n (by omega)]; first | assumption | exact up_s | (rw [up_n (by omega)]; first | assumption | exact up_s | (rw [up_n (by omega)]; first | assumption | exact up_s | (rw [up_n (by omega)]; first | assumption | exact up_s | (rw [up_n (by omega)]; first | assumption | exact up_s)))))) rfl 8 (by decide) (hq _ q122 rfl) (fun _ h9 => h9) (by rfl) dX6_spread_106 ?_
              refine lv_aload_n hx hb dX6_spread_109 rfl (hL.at 0 rfl) ?_
              refine k_get (ci := 8) (C := RX6) (T := TX6) (N := 11) hx hb hts w_RX6 hown hK hW (by first | assumption | exact up_s | (rw [up_n (by omega)]; first | assumption | exact up_s | (rw [up_n (by omega)]; first | assumption | exact up_s | (rw [up_n (by omega)]; first | assumption | exact up_s | (rw [up_n (by omega)]; first | assumption | exact up_s | (rw [up_n (by omega)]; first | assumption | exact up_s)))))) rfl 1 (by decide) (hq _ q111 rfl) (fun _ h9 => h9) (by rfl) dX6_spread_110 ?_
              refine lv_iload hx hb dX6_spread_113 (hL.at 4 rfl) ?_
              refine k_dald hx hb hK hW (by first | assumption | exact up_s | (rw [up_n (by omega)]; first | assumption | exact up_s | (rw [up_n (by omega)]; first | assumption | exact up_s | (rw [up_n (by omega)]; first | assumption | exact up_s | (rw [up_n (by omega)]; first | assumption | exact up_s | (rw [up_n (by omega)]; first | assumption | exact up_s)))))) j (by omega) (by omega) rfl dX6_spread_115 ?_
              refine lv_aload_n hx hb dX6_spread_116 rfl (hL.at 0 rfl) ?_
              refine k_get (ci := 8) (C := RX6) (T := TX6) (N := 11) hx hb hts w_RX6 hown hK hW (by first | assumption | exact up_s | (rw [up_n (by omega)]; first | assumption | exact up_s | (rw [up_n (by omega)]; first | assumption | exact up_s | (rw [up_n (by omega)]; first | assumption | exact up_s | (rw [up_n (by omega)]; first | assumption | exact up_s | (rw [up_n (by omega)]; first | assumption | exact up_s)))))) rfl 0 (by decide) (hq _ q110 rfl) (fun _ h9 => h9) (by rfl) dX6_spread_117 ?_
              refine lv_iload hx hb dX6_spread_120 (hL.at 4 rfl) ?_
              refine k_dald hx hb hK hW (by first | assumption | exact up_s | (rw [up_n (by omega)]; first | assumption | exact up_s | (rw [up_n (by omega)]; first | assumption | exact up_s | (rw [up_n (by omega)]; first | assumption | exact up_s | (rw [up_n (by omega)]; first | assumption | exact up_s | (rw [up_n (by omega)]; first | assumption | exact up_s)))))) j (by omega) (by omega) rfl dX6_spread_122 ?_
              refine lv_dmul hx hb dX6_spread_123 hmul ?_
              refine lv_dadd hx hb dX6_spread_124 hadd ?_
              refine k_put (ci := 8) (C := RX6) (T := TX6) (N := 11) (ty := tyX6 8) hx hb hts w_RX6 tyX6 tyX6_ok nmX6 hown hK hW hS (by first | assumption | exact up_s | (rw [up_n (by omega)]; first | assumption | exact up_s | (rw [up_n (by omega)]; first | assumption | exact up_s | (rw [up_n (by omega)]; first | assumption | exact up_s | (rw [up_n (by omega)]; first | assumption | exact up_s | (rw [up_n (by omega)]; first | assumption | exact up_s)))))) (by omega) rfl 8 (by decide) (hq _ q122 rfl) (fun _ h9 => h9) rfl (by decide +kernel) rfl rfl (by first | exact Nat.le_of_ble_eq_true rfl | (simp only [List.length_set]; exact Nat.le_of_ble_eq_true rfl)) dX6_spread_125 (fun H locs hW hS => ?_)
              refine k_iinc hx hb hL (i := 4) rfl (by decide) dX6_spread_128 (fun ls hL => ?_)
              refine lv_goto (tgt := 60) hx hb dX6_spread_131 (by decide) ?_
              rw [show nI j + Int32.ofInt 1 = nI (j + 1) from nI_1 j] at hL
              exact ih60 (j + 1) _ s96 _ (by omega) (by omega) (by rw [← hl, fLay_go e96, show gg.1 - (j + 1) = d by omega]) (by rw [show gg.1 - (j + 1) = d by omega]; exact hnext _ e96) ⟨(by first | assumption | exact up_s | (rw [up_n (by omega)]; first | assumption | exact up_s | (rw [up_n (by omega)]; first | assumption | exact up_s | (rw [up_n (by omega)]; first | assumption | exact up_s | (rw [up_n (by omega)]; first | assumption | exact up_s | (rw [up_n (by omega)]; first | assumption | exact up_s)))))), (by first | assumption | exact up_s | (rw [up_n (by omega)]; first | assumption | exact up_s | (rw [up_n (by omega)]; first | assumption | exact up_s | (rw [up_n (by omega)]; first | assumption | exact up_s | (rw [up_n (by omega)]; first | assumption | exact up_s | (rw [up_n (by omega)]; first | assumption | exact up_s)))))), (by first | assumption | exact up_s | (rw [up_n (by omega)]; first | assumption | exact up_s | (rw [up_n (by omega)]; first | assumption | exact up_s | (rw [up_n (by omega)]; first | assumption | exact up_s | (rw [up_n (by omega)]; first | assumption | exact up_s | (rw [up_n (by omega)]; first | assumption | exact up_s)))))), (by first | assumption | exact up_s | (rw [up_n (by omega)]; first | assumption | exact up_s | (rw [up_n (by omega)]; first | assumption | exact up_s | (rw [up_n (by omega)]; first | assumption | exact up_s | (rw [up_n (by omega)]; first | assumption | exact up_s | (rw [up_n (by omega)]; first | assumption | exact up_s)))))), (by first | assumption | exact up_s | (rw [up_n (by omega)]; first | assumption | exact up_s | (rw [up_n (by omega)]; first | assumption | exact up_s | (rw [up_n (by omega)]; first | assumption | exact up_s | (rw [up_n (by omega)]; first | assumption | exact up_s | (rw [up_n (by omega)]; first | assumption | exact up_s))))))⟩ ((hko1.tr hk96).up (by omega) (by omega)) _ _ _ hW hS hL
            · try dsimp only at c99
              exact absurd c99 (by decide)
          · refine lv_if_ne (tgt := 104) hx hb dX6_spread_99 (by decide) (fun c99 => ?_) (fun c99 => ?_)
            · try dsimp only at c99
              exact absurd c99 (by decide)
            · try dsimp only at c99
              refine lv_iconst (v := 0) hx hb dX6_spread_102 (by decide) ?_
              rw [hQ]
              exact k_zret hx hb hr hlocks rfl hW hS (by omega) (by omega) dX6_spread_103 (⟨rfl, hko1.tr hk96, Or.inr ⟨by rw [← hl]; exact fLay_no e96, rfl, cov1, s1, hT96⟩⟩)
  exact loop60 (gg.1 + 1) 0 cD0 (0, 0, cD0, fh, fr) _ (by omega) (Nat.zero_le _) rfl hrun hT44 hko44 _ _ _ hW hS hL

set_option maxHeartbeats 4000000 in
set_option maxRecDepth 100000 in
/-- TailorBench$Table.spread  -/
theorem c_spread2 {l : Launch} {D : va_G} {cy : Nat → ClassId} {sad : Nat → Nat} {em : Nat} {s0 : State} {a0 : Array Value} (G : kG kSTR l D cy sad em s0 a0) {ad : Nat → Nat} {ct : Nat → Option va_E} {M : tM} (hm : RepC cy ad ct M) (ho : okM M) {i : Nat} (hi : i < mO M) {jc : Nat} (hc : jc < mC M) {tb : tTb} {fl fw fh fr : Nat → UInt64} (hT : RepT cy ad ct tb fl fw fh fr) (hok : ∀ j, j < (mst M (oS (mod M i))).1 → okGath (mpe M (oP (mod M i))) (fLeft (mcl M jc).2.2.1) ((mst M (oS (mod M i))).2.1 j)) {i2 : Nat} (hi2 : i2 < mO M) (hok2 : ∀ j, j < (mst M (oS (mod M i2))).1 → okGath (mpe M (oP (mod M i2))) (fLeft (mcl M jc).2.2.1) ((mst M (oS (mod M i2))).2.1 j)) {bt : Bool} (hbt : bt = decide ((mcl M jc).2.2.2.2.1 = 0)) (hrun : okRun (mcl M jc).1 (mcl M jc).2.2.2.1 bt (gOrd (mpe M (oP (mod M i2))) (fLeft (mcl M jc).2.2.1) (mst M (oS (mod M i2))).2.1 (mst M (oS (mod M i2))).1 0 (gOrd (mpe M (oP (mod M i))) (fLeft (mcl M jc).2.2.1) (mst M (oS (mod M i))).2.1 (mst M (oS (mod M i))).1 0 (0, fw, fl))).2.1 (gOrd (mpe M (oP (mod M i2))) (fLeft (mcl M jc).2.2.1) (mst M (oS (mod M i2))).2.1 (mst M (oS (mod M i2))).1 0 (gOrd (mpe M (oP (mod M i))) (fLeft (mcl M jc).2.2.1) (mst M (oS (mod M i))).2.1 (mst M (oS (mod M i))).1 0 (0, fw, fl))).2.2 (gOrd (mpe M (oP (mod M i2))) (fLeft (mcl M jc).2.2.1) (mst M (oS (mod M i2))).2.1 (mst M (oS (mod M i2))).1 0 (gOrd (mpe M (oP (mod M i))) (fLeft (mcl M jc).2.2.1) (mst M (oS (mod M i))).2.1 (mst M (oS (mod M i))).1 0 (0, fw, fl))).1 0 cD0 (0, 0, cD0, fh, fr)) :
    KM l yX6_spread [.code yX6_spread prog_8_method_2_code 5 (some .boolean)] 4 95 0 0 [.ref (ad 7), .ref (ad (64 + i)), .ref (ad (64 + i2)), .ref (ad (16 + jc))] D s0 ad ct (fun v ad' ct' => ad' = ad ∧ kOut ct ct' ∧ kSpr cy ad ct' (mcl M jc).1 (mcl M jc).2.2.2.1 (gOrd (mpe M (oP (mod M i2))) (fLeft (mcl M jc).2.2.1) (mst M (oS (mod M i2))).2.1 (mst M (oS (mod M i2))).1 0 (gOrd (mpe M (oP (mod M i))) (fLeft (mcl M jc).2.2.1) (mst M (oS (mod M i))).2.1 (mst M (oS (mod M i))).1 0 (0, fw, fl))) (fLay (mcl M jc).1 (mcl M jc).2.2.2.1 bt (gOrd (mpe M (oP (mod M i2))) (fLeft (mcl M jc).2.2.1) (mst M (oS (mod M i2))).2.1 (mst M (oS (mod M i2))).1 0 (gOrd (mpe M (oP (mod M i))) (fLeft (mcl M jc).2.2.1) (mst M (oS (mod M i))).2.1 (mst M (oS (mod M i))).1 0 (0, fw, fl))).2.1 (gOrd (mpe M (oP (mod M i2))) (fLeft (mcl M jc).2.2.1) (mst M (oS (mod M i2))).2.1 (mst M (oS (mod M i2))).1 0 (gOrd (mpe M (oP (mod M i))) (fLeft (mcl M jc).2.2.1) (mst M (oS (mod M i))).2.1 (mst M (oS (mod M i))).1 0 (0, fw, fl))).2.2 (gOrd (mpe M (oP (mod M i2))) (fLeft (mcl M jc).2.2.1) (mst M (oS (mod M i2))).2.1 (mst M (oS (mod M i2))).1 0 (gOrd (mpe M (oP (mod M i))) (fLeft (mcl M jc).2.2.1) (mst M (oS (mod M i))).2.1 (mst M (oS (mod M i))).1 0 (0, fw, fl))).1 0 cD0 (0, 0, cD0, fh, fr)) v) := by
  refine KM.of G (by decide) (Nat.le_of_ble_eq_true rfl) (Nat.le_of_ble_eq_true rfl) ?_
  intro p e s m args below meth c ls Q hQ X hin hL hW hS
  obtain ⟨hx, hb, hr, hml, hown, hlocks, hts, hq, hK, hI⟩ := X
  obtain ⟨t7, t8, t9, t10, t11⟩ := id hT
  have hC := hm.2.2.1 jc hc
  obtain ⟨hkc, hksp, hknap, -⟩ := ho.2.1 jc hc
  obtain ⟨oo, ob, os, oa, op, ow, oms, o5, ok, opos, ost⟩ := hm.ord ho hi
  have h20 := fCnt_20 o5 ok
  obtain ⟨ooZ, obZ, osZ, oaZ, opZ, owZ, omsZ, o5Z, okZ, oposZ, ostZ⟩ := hm.ord ho hi2
  have h202 := fCnt_20 o5Z okZ
  refine lv_aload_n hx hb dX6_spread_0 rfl (hL.at 0 rfl) ?_
  refine lv_iconst (v := 0) hx hb dX6_spread_1 (by decide) ?_
  refine k_put (ci := 8) (C := RX6) (T := TX6) (N := 11) (ty := tyX6 4) hx hb hts w_RX6 tyX6 tyX6_ok nmX6 hown hK hW hS (by first | assumption | exact up_s | (rw [up_n (by omega)]; first | assumption | exact up_s | (rw [up_n (by omega)]; first | assumption | exact up_s | (rw [up_n (by omega)]; first | assumption | exact up_s | (rw [up_n (by omega)]; first | assumption | exact up_s | (rw [up_n (by omega)]; first | assumption | exact up_s)))))) (by omega) rfl 4 (by decide) (hq _ q114 rfl) (fun _ h9 => h9) rfl (by decide +kernel) rfl rfl (by first | exact Nat.le_of_ble_eq_true rfl | (simp only [List.length_set]; exact Nat.le_of_ble_eq_true rfl)) dX6_spread_2 (fun H locs hW hS => ?_)
  refine lv_aload_n hx hb dX6_spread_5 rfl (hL.at 0 rfl) ?_
  refine lv_iconst (v := 0) hx hb dX6_spread_6 (by decide) ?_
  refine k_put (ci := 8) (C := RX6) (T := TX6) (N := 11) (ty := tyX6 5) hx hb hts w_RX6 tyX6 tyX6_ok nmX6 hown hK hW hS (by first | assumption | exact up_s | (rw [up_n (by omega)]; first | assumption | exact up_s | (rw [up_n (by omega)]; first | assumption | exact up_s | (rw [up_n (by omega)]; first | assumption | exact up_s | (rw [up_n (by omega)]; first | assumption | exact up_s | (rw [up_n (by omega)]; first | assumption | exact up_s)))))) (by omega) rfl 5 (by decide) (hq _ q116 rfl) (fun _ h9 => h9) rfl (by decide +kernel) rfl rfl (by first | exact Nat.le_of_ble_eq_true rfl | (simp only [List.length_set]; exact Nat.le_of_ble_eq_true rfl)) dX6_spread_7 (fun H locs hW hS => ?_)
  refine lv_aload_n hx hb dX6_spread_10 rfl (hL.at 0 rfl) ?_
  refine lv_iconst (v := 0) hx hb dX6_spread_11 (by decide) ?_
  refine k_put (ci := 8) (C := RX6) (T := TX6) (N := 11) (ty := tyX6 6) hx hb hts w_RX6 tyX6 tyX6_ok nmX6 hown hK hW hS (by first | assumption | exact up_s | (rw [up_n (by omega)]; first | assumption | exact up_s | (rw [up_n (by omega)]; first | assumption | exact up_s | (rw [up_n (by omega)]; first | assumption | exact up_s | (rw [up_n (by omega)]; first | assumption | exact up_s | (rw [up_n (by omega)]; first | assumption | exact up_s)))))) (by omega) rfl 6 (by decide) (hq _ q118 rfl) (fun _ h9 => h9) rfl (by decide +kernel) rfl rfl (by first | exact Nat.le_of_ble_eq_true rfl | (simp only [List.length_set]; exact Nat.le_of_ble_eq_true rfl)) dX6_spread_12 (fun H locs hW hS => ?_)
  refine lv_aload_n hx hb dX6_spread_15 rfl (hL.at 0 rfl) ?_
  refine lv_dconst0 hx hb dX6_spread_16 ?_
  refine k_put (ci := 8) (C := RX6) (T := TX6) (N := 11) (ty := tyX6 7) hx hb hts w_RX6 tyX6 tyX6_ok nmX6 hown hK hW hS (by first | assumption | exact up_s | (rw [up_n (by omega)]; first | assumption | exact up_s | (rw [up_n (by omega)]; first | assumption | exact up_s | (rw [up_n (by omega)]; first | assumption | exact up_s | (rw [up_n (by omega)]; first | assumption | exact up_s | (rw [up_n (by omega)]; first | assumption | exact up_s)))))) (by omega) rfl 7 (by decide) (hq _ q120 rfl) (fun _ h9 => h9) rfl (by decide +kernel) rfl rfl (by first | exact Nat.le_of_ble_eq_true rfl | (simp only [List.length_set]; exact Nat.le_of_ble_eq_true rfl)) dX6_spread_17 (fun H locs hW hS => ?_)
  refine lv_aload_n hx hb dX6_spread_20 rfl (hL.at 0 rfl) ?_
  refine lv_dconst0 hx hb dX6_spread_21 ?_
  refine k_put (ci := 8) (C := RX6) (T := TX6) (N := 11) (ty := tyX6 8) hx hb hts w_RX6 tyX6 tyX6_ok nmX6 hown hK hW hS (by first | assumption | exact up_s | (rw [up_n (by omega)]; first | assumption | exact up_s | (rw [up_n (by omega)]; first | assumption | exact up_s | (rw [up_n (by omega)]; first | assumption | exact up_s | (rw [up_n (by omega)]; first | assumption | exact up_s | (rw [up_n (by omega)]; first | assumption | exact up_s)))))) (by omega) rfl 8 (by decide) (hq _ q122 rfl) (fun _ h9 => h9) rfl (by decide +kernel) rfl rfl (by first | exact Nat.le_of_ble_eq_true rfl | (simp only [List.length_set]; exact Nat.le_of_ble_eq_true rfl)) dX6_spread_22 (fun H locs hW hS => ?_)
  refine lv_aload_n hx hb dX6_spread_25 rfl (hL.at 0 rfl) ?_
  refine lv_aload_n hx hb dX6_spread_26 rfl (hL.at 3 rfl) ?_
  refine k_getN (ci := 2) (C := RX0) (T := TX0) (N := 6) hx hb hts w_RX0 hown hK hW (by first | assumption | exact up_s | (rw [up_n (by omega)]; first | assumption | exact up_s | (rw [up_n (by omega)]; first | assumption | exact up_s | (rw [up_n (by omega)]; first | assumption | exact up_s | (rw [up_n (by omega)]; first | assumption | exact up_s | (rw [up_n (by omega)]; first | assumption | exact up_s)))))) rfl 3 (by decide) (hq _ q479 rfl) (fun _ h9 => h9) (by rfl) dX6_spread_27 ?_
  refine k_put (ci := 8) (C := RX6) (T := TX6) (N := 11) (ty := tyX6 9) hx hb hts w_RX6 tyX6 tyX6_ok nmX6 hown hK hW hS (by first | assumption | exact up_s | (rw [up_n (by omega)]; first | assumption | exact up_s | (rw [up_n (by omega)]; first | assumption | exact up_s | (rw [up_n (by omega)]; first | assumption | exact up_s | (rw [up_n (by omega)]; first | assumption | exact up_s | (rw [up_n (by omega)]; first | assumption | exact up_s)))))) (by omega) rfl 9 (by decide) (hq _ q123 rfl) (fun _ h9 => h9) rfl (by decide +kernel) rfl rfl (by first | exact Nat.le_of_ble_eq_true rfl | (simp only [List.length_set]; exact Nat.le_of_ble_eq_true rfl)) dX6_spread_30 (fun H locs hW hS => ?_)
  refine lv_aload_n hx hb dX6_spread_33 rfl (hL.at 0 rfl) ?_
  refine lv_aload_n hx hb dX6_spread_34 rfl (hL.at 3 rfl) ?_
  refine k_getN (ci := 2) (C := RX0) (T := TX0) (N := 6) hx hb hts w_RX0 hown hK hW (by first | assumption | exact up_s | (rw [up_n (by omega)]; first | assumption | exact up_s | (rw [up_n (by omega)]; first | assumption | exact up_s | (rw [up_n (by omega)]; first | assumption | exact up_s | (rw [up_n (by omega)]; first | assumption | exact up_s | (rw [up_n (by omega)]; first | assumption | exact up_s)))))) rfl 0 (by decide) (hq _ q471 rfl) (fun _ h9 => h9) (by rfl) dX6_spread_35 ?_
  refine k_put (ci := 8) (C := RX6) (T := TX6) (N := 11) (ty := tyX6 10) hx hb hts w_RX6 tyX6 tyX6_ok nmX6 hown hK hW hS (by first | assumption | exact up_s | (rw [up_n (by omega)]; first | assumption | exact up_s | (rw [up_n (by omega)]; first | assumption | exact up_s | (rw [up_n (by omega)]; first | assumption | exact up_s | (rw [up_n (by omega)]; first | assumption | exact up_s | (rw [up_n (by omega)]; first | assumption | exact up_s)))))) (by omega) rfl 10 (by decide) (hq _ q124 rfl) (fun _ h9 => h9) rfl (by decide +kernel) rfl rfl (by first | exact Nat.le_of_ble_eq_true rfl | (simp only [List.length_set]; exact Nat.le_of_ble_eq_true rfl)) dX6_spread_38 (fun H locs hW hS => ?_)
  refine lv_aload_n hx hb dX6_spread_41 rfl (hL.at 0 rfl) ?_
  refine lv_aload_n hx hb dX6_spread_42 rfl (hL.at 1 rfl) ?_
  refine lv_aload_n hx hb dX6_spread_43 rfl (hL.at 3 rfl) ?_
  refine k_callV (q := (RX6, TX6, 11)) hx hb hml hown hts hK hI hS hW hL.1 (by first | assumption | exact up_s | (rw [up_n (by omega)]; first | assumption | exact up_s | (rw [up_n (by omega)]; first | assumption | exact up_s | (rw [up_n (by omega)]; first | assumption | exact up_s | (rw [up_n (by omega)]; first | assumption | exact up_s | (rw [up_n (by omega)]; first | assumption | exact up_s)))))) rfl (c_gather G (hm.out ho (by repeat (first | assumption | exact kOut.rf | refine kOut.up ?_ (by omega) (by omega)))) ho hi hc (tb := (0, 0, 0, cD0, cD0, (mcl M jc).1, (mcl M jc).2.2.2.1)) (show RepT cy ad _ _ fl fw fh fr from ⟨(by first | assumption | exact up_s | (rw [up_n (by omega)]; first | assumption | exact up_s | (rw [up_n (by omega)]; first | assumption | exact up_s | (rw [up_n (by omega)]; first | assumption | exact up_s | (rw [up_n (by omega)]; first | assumption | exact up_s | (rw [up_n (by omega)]; first | assumption | exact up_s)))))), (by first | assumption | exact up_s | (rw [up_n (by omega)]; first | assumption | exact up_s | (rw [up_n (by omega)]; first | assumption | exact up_s | (rw [up_n (by omega)]; first | assumption | exact up_s | (rw [up_n (by omega)]; first | assumption | exact up_s | (rw [up_n (by omega)]; first | assumption | exact up_s)))))), (by first | assumption | exact up_s | (rw [up_n (by omega)]; first | assumption | exact up_s | (rw [up_n (by omega)]; first | assumption | exact up_s | (rw [up_n (by omega)]; first | assumption | exact up_s | (rw [up_n (by omega)]; first | assumption | exact up_s | (rw [up_n (by omega)]; first | assumption | exact up_s)))))), (by first | assumption | exact up_s | (rw [up_n (by omega)]; first | assumption | exact up_s | (rw [up_n (by omega)]; first | assumption | exact up_s | (rw [up_n (by omega)]; first | assumption | exact up_s | (rw [up_n (by omega)]; first | assumption | exact up_s | (rw [up_n (by omega)]; first | assumption | exact up_s)))))), (by first | assumption | exact up_s | (rw [up_n (by omega)]; first | assumption | exact up_s | (rw [up_n (by omega)]; first | assumption | exact up_s | (rw [up_n (by omega)]; first | assumption | exact up_s | (rw [up_n (by omega)]; first | assumption | exact up_s | (rw [up_n (by omega)]; first | assumption | exact up_s))))))⟩) hok (show 0 + _ ≤ 40 by omega)) (m5 (gT_in q366 rfl) (gT_in q368 rfl) (gT_in q8 rfl) (gT_in q56 rfl) (gT_in q369 rfl)) rfl (show kpar yX6_gather 2 from ⟨by decide, by decide, by decide +kernel⟩) ⟨by decide, by decide⟩ (by show _ ≤ (0 : Nat); omega) (by show _ ≤ (0 : Nat); omega) rfl (by decide) dX6_spread_44 (fun v ad44 ct44 H locs hp hW hS => ?_)
  obtain ⟨rfl, h1, hk44, hT44⟩ := hp
  rw [h1] at hW
  have hko44 : kOut ct ct44 := kOut.tr (by repeat (first | assumption | exact kOut.rf | refine kOut.up ?_ (by omega) (by omega))) hk44
  have hm44 := hm.out ho hko44
  obtain ⟨t7, t8, t9, t10, t11⟩ := id hT44
  have hg1 := gOrd_n0 (mpe M (oP (mod M i))) (fLeft (mcl M jc).2.2.1) (mst M (oS (mod M i))).2.1 (mst M (oS (mod M i))).1 (0, fw, fl)
  have hg1 : (gOrd (mpe M (oP (mod M i))) (fLeft (mcl M jc).2.2.1) (mst M (oS (mod M i))).2.1 (mst M (oS (mod M i))).1 0 (0, fw, fl)).1 = 0 + fCnt (mst M (oS (mod M i))).2.1 (mst M (oS (mod M i))).1 := hg1
  refine lv_aload_n hx hb dX6_spread_47 rfl (hL.at 2 rfl) ?_
  refine lv_ifnull hx hb dX6_spread_48 ?_
  refine lv_aload_n hx hb dX6_spread_51 rfl (hL.at 0 rfl) ?_
  refine lv_aload_n hx hb dX6_spread_52 rfl (hL.at 2 rfl) ?_
  refine lv_aload_n hx hb dX6_spread_53 rfl (hL.at 3 rfl) ?_
  refine k_callV (q := (RX6, TX6, 11)) hx hb hml hown hts hK hI hS hW hL.1 (by first | assumption | exact up_s | (rw [up_n (by omega)]; first | assumption | exact up_s | (rw [up_n (by omega)]; first | assumption | exact up_s | (rw [up_n (by omega)]; first | assumption | exact up_s | (rw [up_n (by omega)]; first | assumption | exact up_s | (rw [up_n (by omega)]; first | assumption | exact up_s)))))) rfl (c_gather G hm44 ho hi2 hc (tb := ((gOrd (mpe M (oP (mod M i))) (fLeft (mcl M jc).2.2.1) (mst M (oS (mod M i))).2.1 (mst M (oS (mod M i))).1 0 (0, fw, fl)).1, 0, 0, cD0, cD0, (mcl M jc).1, (mcl M jc).2.2.2.1)) hT44 hok2 (show (gOrd (mpe M (oP (mod M i))) (fLeft (mcl M jc).2.2.1) (mst M (oS (mod M i))).2.1 (mst M (oS (mod M i))).1 0 (0, fw, fl)).1 + _ ≤ 40 by omega)) (m5 (gT_in q366 rfl) (gT_in q368 rfl) (gT_in q8 rfl) (gT_in q56 rfl) (gT_in q369 rfl)) rfl (show kpar yX6_gather 2 from ⟨by decide, by decide, by decide +kernel⟩) ⟨by decide, by decide⟩ (by show _ ≤ (0 : Nat); omega) (by show _ ≤ (0 : Nat); omega) rfl (by decide) dX6_spread_54 (fun v ad54 ct54 H locs hp hW hS => ?_)
  obtain ⟨rfl, h1, hk54, hT54⟩ := hp
  rw [h1] at hW
  have hko54 : kOut ct ct54 := hko44.tr hk54
  have hg2 := gOrd_n0 (mpe M (oP (mod M i2))) (fLeft (mcl M jc).2.2.1) (mst M (oS (mod M i2))).2.1 (mst M (oS (mod M i2))).1 (gOrd (mpe M (oP (mod M i))) (fLeft (mcl M jc).2.2.1) (mst M (oS (mod M i))).2.1 (mst M (oS (mod M i))).1 0 (0, fw, fl))
  obtain ⟨gg, hgg⟩ : ∃ z, z = (gOrd (mpe M (oP (mod M i2))) (fLeft (mcl M jc).2.2.1) (mst M (oS (mod M i2))).2.1 (mst M (oS (mod M i2))).1 0 (gOrd (mpe M (oP (mod M i))) (fLeft (mcl M jc).2.2.1) (mst M (oS (mod M i))).2.1 (mst M (oS (mod M i))).1 0 (0, fw, fl))) := ⟨_, rfl⟩
  rw [← hgg] at hrun hQ hT54
  have hg40 : gg.1 ≤ 40 := by rw [hgg]; omega
  obtain ⟨t7, t8, t9, t10, t11⟩ := id hT54
  refine lv_iconst (v := 0) hx hb dX6_spread_57 (by decide) ?_
  refine k_ist hx hb hL (i := 4) (by decide) dX6_spread_58 (fun ls hL => ?_)
  have loop60 : ∀ (nf : Nat) (j : Nat) (cov1 : UInt64) (s1 : tLs) (ct1 : Nat → Option va_E), gg.1 - j < nf → j ≤ gg.1 → fLay (mcl M jc).1 (mcl M jc).2.2.2.1 bt gg.2.1 gg.2.2 (gg.1 - j) j cov1 s1 = fLay (mcl M jc).1 (mcl M jc).2.2.2.1 bt gg.2.1 gg.2.2 gg.1 0 cD0 (0, 0, cD0, fh, fr) → okRun (mcl M jc).1 (mcl M jc).2.2.2.1 bt gg.2.1 gg.2.2 (gg.1 - j) j cov1 s1 → RepL cy ad ct1 gg.1 cov1 (mcl M jc).1 (mcl M jc).2.2.2.1 gg.2.2 gg.2.1 s1 → kOut ct ct1 → ∀ (H : Heap) (locs : List Loc) (ls : Array Slot), kW D s0.heap.size ad ct1 H → va_S (kA s0) s.heap H locs → lvP ls 5 [some (.ref (ad 7)), some (.ref (ad (64 + i))), some (.ref (ad (64 + i2))), some (.ref (ad (16 + jc))), some (.int (nI j))] → W p l e (krm 4 95 0 0) s m args below meth c H locs 0 0 Q (F0 m 60 ls []) := by
    intro nf
    induction nf with
    | zero => intro j cov1 s1 ct1 hms60; exact absurd hms60 (Nat.not_lt_zero _)
    | succ nf ih60 =>
      intro j cov1 s1 ct1 hms60 hj hl hr2 hTl hko1 H locs ls hW hS hL
      have hC1 := (hm.out ho hko1).2.2.1 jc hc
      obtain ⟨t7, t8, t9, t10, t11⟩ := id hTl
      refine lv_iload hx hb dX6_spread_60 (hL.at 4 rfl) ?_
      refine lv_aload_n hx hb dX6_spread_62 rfl (hL.at 0 rfl) ?_
      refine k_get (ci := 8) (C := RX6) (T := TX6) (N := 11) hx hb hts w_RX6 hown hK hW (by first | assumption | exact up_s | (rw [up_n (by omega)]; first | assumption | exact up_s | (rw [up_n (by omega)]; first | assumption | exact up_s | (rw [up_n (by omega)]; first | assumption | exact up_s | (rw [up_n (by omega)]; first | assumption | exact up_s | (rw [up_n (by omega)]; first | assumption | exact up_s)))))) rfl 4 (by decide) (hq _ q114 rfl) (fun _ h9 => h9) (by rfl) dX6_spread_63 ?_
      refine lv_icmp_ge (tgt := 134) hx hb dX6_spread_66 (by decide) (fun c66 => ?_) (fun c66 => ?_)
      · try dsimp only at c66
        have ej : j = gg.1 := by have := (nI_leI (by omega) (by omega)).mp c66; omega
        refine lv_iconst (v := 1) hx hb dX6_spread_134 (by decide) ?_
        rw [hQ]
        exact k_zret hx hb hr hlocks rfl hW hS (by omega) (by omega) dX6_spread_135 (⟨rfl, hko1, Or.inl ⟨(cov1, s1), by rw [← hl, ej, Nat.sub_self]; rfl, rfl, hTl⟩⟩)
      · try dsimp only at c66
        have hlt : j < gg.1 := by
          rcases Nat.lt_or_ge j gg.1 with q | q
          · exact q
          · exact absurd (nI_le q (by omega)) c66
        obtain ⟨d, hd⟩ : ∃ d, gg.1 - j = d + 1 := ⟨gg.1 - j - 1, by omega⟩
        rw [hd] at hr2 hl
        obtain ⟨hokp, hmul, hadd, hnext⟩ := hr2
        refine lv_aload_n hx hb dX6_spread_69 rfl (hL.at 0 rfl) ?_
        refine lv_aload_n hx hb dX6_spread_70 rfl (hL.at 0 rfl) ?_
        refine k_get (ci := 8) (C := RX6) (T := TX6) (N := 11) hx hb hts w_RX6 hown hK hW (by first | assumption | exact up_s | (rw [up_n (by omega)]; first | assumption | exact up_s | (rw [up_n (by omega)]; first | assumption | exact up_s | (rw [up_n (by omega)]; first | assumption | exact up_s | (rw [up_n (by omega)]; first | assumption | exact up_s | (rw [up_n (by omega)]; first | assumption | exact up_s)))))) rfl 1 (by decide) (hq _ q111 rfl) (fun _ h9 => h9) (by rfl) dX6_spread_71 ?_
        refine lv_iload hx hb dX6_spread_74 (hL.at 4 rfl) ?_
        refine k_dald hx hb hK hW (by first | assumption | exact up_s | (rw [up_n (by omega)]; first | assumption | exact up_s | (rw [up_n (by omega)]; first | assumption | exact up_s | (rw [up_n (by omega)]; first | assumption | exact up_s | (rw [up_n (by omega)]; first | assumption | exact up_s | (rw [up_n (by omega)]; first | assumption | exact up_s)))))) j (by omega) (by omega) rfl dX6_spread_76 ?_
        refine lv_aload_n hx hb dX6_spread_77 rfl (hL.at 0 rfl) ?_
        refine k_get (ci := 8) (C := RX6) (T := TX6) (N := 11) hx hb hts w_RX6 hown hK hW (by first | assumption | exact up_s | (rw [up_n (by omega)]; first | assumption | exact up_s | (rw [up_n (by omega)]; first | assumption | exact up_s | (rw [up_n (by omega)]; first | assumption | exact up_s | (rw [up_n (by omega)]; first | assumption | exact up_s | (rw [up_n (by omega)]; first | assumption | exact up_s)))))) rfl 0 (by decide) (hq _ q110 rfl) (fun _ h9 => h9) (by rfl) dX6_spread_78 ?_
        refine lv_iload hx hb dX6_spread_81 (hL.at 4 rfl) ?_
        refine k_dald hx hb hK hW (by first | assumption | exact up_s | (rw [up_n (by omega)]; first | assumption | exact up_s | (rw [up_n (by omega)]; first | assumption | exact up_s | (rw [up_n (by omega)]; first | assumption | exact up_s | (rw [up_n (by omega)]; first | assumption | exact up_s | (rw [up_n (by omega)]; first | assumption | exact up_s)))))) j (by omega) (by omega) rfl dX6_spread_83 ?_
        refine lv_aload_n hx hb dX6_spread_84 rfl (hL.at 3 rfl) ?_
        refine k_getN (ci := 2) (C := RX0) (T := TX0) (N := 6) hx hb hts w_RX0 hown hK hW (by first | assumption | exact up_s | (rw [up_n (by omega)]; first | assumption | exact up_s | (rw [up_n (by omega)]; first | assumption | exact up_s | (rw [up_n (by omega)]; first | assumption | exact up_s | (rw [up_n (by omega)]; first | assumption | exact up_s | (rw [up_n (by omega)]; first | assumption | exact up_s)))))) rfl 1 (by decide) (hq _ q474 rfl) (fun _ h9 => h9) (by rfl) dX6_spread_85 ?_
        refine lv_if_ne (tgt := 95) hx hb dX6_spread_88 (by decide) (fun c88 => ?_) (fun c88 => ?_)
        · try dsimp only at c88
          refine lv_iconst (v := 0) hx hb dX6_spread_95 (by decide) ?_
          refine lv_topi (fun y hy => ?_)
          have hy2 : y = if bt then 1 else 0 := by rw [hy, hbt, decide_eq_false c88]; rfl
          subst hy2
          refine k_callV (q := (RX6, TX6, 11)) hx hb hml hown hts hK hI hS hW hL.1 (by first | assumption | exact up_s | (rw [up_n (by omega)]; first | assumption | exact up_s | (rw [up_n (by omega)]; first | assumption | exact up_s | (rw [up_n (by omega)]; first | assumption | exact up_s | (rw [up_n (by omega)]; first | assumption | exact up_s | (rw [up_n (by omega)]; first | assumption | exact up_s)))))) rfl (c_put G hTl (gg.2.1 j) (gg.2.2 j) bt hksp hokp) (m5 (gT_in q389 rfl) (gT_in q391 rfl) (gT_in q13 rfl) (gT_in q56 rfl) (gT_in q392 rfl)) rfl (show kpar yX6_put 3 from ⟨by decide, by decide, by decide +kernel⟩) ⟨by decide, by decide⟩ (by show _ ≤ (0 : Nat); omega) (by show _ ≤ (0 : Nat); omega) rfl (by decide) dX6_spread_96 (fun v ad96 ct96 H locs hp hW hS => ?_)
          obtain ⟨h1, hk96, hc96⟩ := hp
          rw [h1] at hW
          rcases hc96 with ⟨s96, e96, rfl, hT96⟩ | ⟨e96, rfl, hT96⟩
          · obtain ⟨t7, t8, t9, t10, t11⟩ := id hT96
            refine lv_if_ne (tgt := 104) hx hb dX6_spread_99 (by decide) (fun c99 => ?_) (fun c99 => ?_)
            · try dsimp only at c99
              refine lv_aload_n hx hb dX6_spread_104 rfl (hL.at 0 rfl) ?_
              refine lv_aload_n hx hb dX6_spread_105 rfl (hL.at 0 rfl) ?_
              refine k_get (ci := 8) (C := RX6) (T := TX6) (N := 11) hx hb hts w_RX6 hown hK hW (by first | assumption | exact up_s | (rw [up_n (by omega)]; first | assumption | exact up_s | (rw [up_n (by omega)]; first | assumption | exact up_s | (rw [up_n (by omega)]; first | assumption | exact up_s | (rw [up_n (by omega)]; first | assumption | exact up_s | (rw [up_n (by omega)]; first | assumption | exact up_s)))))) rfl 8 (by decide) (hq _ q122 rfl) (fun _ h9 => h9) (by rfl) dX6_spread_106 ?_
              refine lv_aload_n hx hb dX6_spread_109 rfl (hL.at 0 rfl) ?_
              refine k_get (ci := 8) (C := RX6) (T := TX6) (N := 11) hx hb hts w_RX6 hown hK hW (by first | assumption | exact up_s | (rw [up_n (by omega)]; first | assumption | exact up_s | (rw [up_n (by omega)]; first | assumption | exact up_s | (rw [up_n (by omega)]; first | assumption | exact up_s | (rw [up_n (by omega)]; first | assumption | exact up_s | (rw [up_n (by omega)]; first | assumption | exact up_s)))))) rfl 1 (by decide) (hq _ q111 rfl) (fun _ h9 => h9) (by rfl) dX6_spread_110 ?_
              refine lv_iload hx hb dX6_spread_113 (hL.at 4 rfl) ?_
              refine k_dald hx hb hK hW (by first | assumption | exact up_s | (rw [up_n (by omega)]; first | assumption | exact up_s | (rw [up_n (by omega)]; first | assumption | exact up_s | (rw [up_n (by omega)]; first | assumption | exact up_s | (rw [up_n (by omega)]; first | assumption | exact up_s | (rw [up_n (by omega)]; first | assumption | exact up_s)))))) j (by omega) (by omega) rfl dX6_spread_115 ?_
              refine lv_aload_n hx hb dX6_spread_116 rfl (hL.at 0 rfl) ?_
              refine k_get (ci := 8) (C := RX6) (T := TX6) (N := 11) hx hb hts w_RX6 hown hK hW (by first | assumption | exact up_s | (rw [up_n (by omega)]; first | assumption | exact up_s | (rw [up_n (by omega)]; first | assumption | exact up_s | (rw [up_n (by omega)]; first | assumption | exact up_s | (rw [up_n (by omega)]; first | assumption | exact up_s | (rw [up_n (by omega)]; first | assumption | exact up_s)))))) rfl 0 (by decide) (hq _ q110 rfl) (fun _ h9 => h9) (by rfl) dX6_spread_117 ?_
              refine lv_iload hx hb dX6_spread_120 (hL.at 4 rfl) ?_
              refine k_dald hx hb hK hW (by first | assumption | exact up_s | (rw [up_n (by omega)]; first | assumption | exact up_s | (rw [up_n (by omega)]; first | assumption | exact up_s | (rw [up_n (by omega)]; first | assumption | exact up_s | (rw [up_n (by omega)]; first | assumption | exact up_s | (rw [up_n (by omega)]; first | assumption | exact up_s)))))) j (by omega) (by omega) rfl dX6_spread_122 ?_
              refine lv_dmul hx hb dX6_spread_123 hmul ?_
              refine lv_dadd hx hb dX6_spread_124 hadd ?_
              refine k_put (ci := 8) (C := RX6) (T := TX6) (N := 11) (ty := tyX6 8) hx hb hts w_RX6 tyX6 tyX6_ok nmX6 hown hK hW hS (by first | assumption | exact up_s | (rw [up_n (by omega)]; first | assumption | exact up_s | (rw [up_n (by omega)]; first | assumption | exact up_s | (rw [up_n (by omega)]; first | assumption | exact up_s | (rw [up_n (by omega)]; first | assumption | exact up_s | (rw [up_n (by omega)]; first | assumption | exact up_s)))))) (by omega) rfl 8 (by decide) (hq _ q122 rfl) (fun _ h9 => h9) rfl (by decide +kernel) rfl rfl (by first | exact Nat.le_of_ble_eq_true rfl | (simp only [List.length_set]; exact Nat.le_of_ble_eq_true rfl)) dX6_spread_125 (fun H locs hW hS => ?_)
              refine k_iinc hx hb hL (i := 4) rfl (by decide) dX6_spread_128 (fun ls hL => ?_)
              refine lv_goto (tgt := 60) hx hb dX6_spread_131 (by decide) ?_
              rw [show nI j + Int32.ofInt 1 = nI (j + 1) from nI_1 j] at hL
              exact ih60 (j + 1) _ s96 _ (by omega) (by omega) (by rw [← hl, fLay_go e96, show gg.1 - (j + 1) = d by omega]) (by rw [show gg.1 - (j + 1) = d by omega]; exact hnext _ e96) ⟨(by first | assumption | exact up_s | (rw [up_n (by omega)]; first | assumption | exact up_s | (rw [up_n (by omega)]; first | assumption | exact up_s | (rw [up_n (by omega)]; first | assumption | exact up_s | (rw [up_n (by omega)]; first | assumption | exact up_s | (rw [up_n (by omega)]; first | assumption | exact up_s)))))), (by first | assumption | exact up_s | (rw [up_n (by omega)]; first | assumption | exact up_s | (rw [up_n (by omega)]; first | assumption | exact up_s | (rw [up_n (by omega)]; first | assumption | exact up_s | (rw [up_n (by omega)]; first | assumption | exact up_s | (rw [up_n (by omega)]; first | assumption | exact up_s)))))), (by first | assumption | exact up_s | (rw [up_n (by omega)]; first | assumption | exact up_s | (rw [up_n (by omega)]; first | assumption | exact up_s | (rw [up_n (by omega)]; first | assumption | exact up_s | (rw [up_n (by omega)]; first | assumption | exact up_s | (rw [up_n (by omega)]; first | assumption | exact up_s)))))), (by first | assumption | exact up_s | (rw [up_n (by omega)]; first | assumption | exact up_s | (rw [up_n (by omega)]; first | assumption | exact up_s | (rw [up_n (by omega)]; first | assumption | exact up_s | (rw [up_n (by omega)]; first | assumption | exact up_s | (rw [up_n (by omega)]; first | assumption | exact up_s)))))), (by first | assumption | exact up_s | (rw [up_n (by omega)]; first | assumption | exact up_s | (rw [up_n (by omega)]; first | assumption | exact up_s | (rw [up_n (by omega)]; first | assumption | exact up_s | (rw [up_n (by omega)]; first | assumption | exact up_s | (rw [up_n (by omega)]; first | assumption | exact up_s))))))⟩ ((hko1.tr hk96).up (by omega) (by omega)) _ _ _ hW hS hL
            · try dsimp only at c99
              exact absurd c99 (by decide)
          · refine lv_if_ne (tgt := 104) hx hb dX6_spread_99 (by decide) (fun c99 => ?_) (fun c99 => ?_)
            · try dsimp only at c99
              exact absurd c99 (by decide)
            · try dsimp only at c99
              refine lv_iconst (v := 0) hx hb dX6_spread_102 (by decide) ?_
              rw [hQ]
              exact k_zret hx hb hr hlocks rfl hW hS (by omega) (by omega) dX6_spread_103 (⟨rfl, hko1.tr hk96, Or.inr ⟨by rw [← hl]; exact fLay_no e96, rfl, cov1, s1, hT96⟩⟩)
        · try dsimp only at c88
          refine lv_iconst (v := 1) hx hb dX6_spread_91 (by decide) ?_
          refine lv_topi (fun y hy => ?_)
          have hy2 : y = if bt then 1 else 0 := by rw [hy, hbt, decide_eq_true c88]; rfl
          subst hy2
          refine lv_goto (tgt := 96) hx hb dX6_spread_92 (by decide) ?_
          refine k_callV (q := (RX6, TX6, 11)) hx hb hml hown hts hK hI hS hW hL.1 (by first | assumption | exact up_s | (rw [up_n (by omega)]; first | assumption | exact up_s | (rw [up_n (by omega)]; first | assumption | exact up_s | (rw [up_n (by omega)]; first | assumption | exact up_s | (rw [up_n (by omega)]; first | assumption | exact up_s | (rw [up_n (by omega)]; first | assumption | exact up_s)))))) rfl (c_put G hTl (gg.2.1 j) (gg.2.2 j) bt hksp hokp) (m5 (gT_in q389 rfl) (gT_in q391 rfl) (gT_in q13 rfl) (gT_in q56 rfl) (gT_in q392 rfl)) rfl (show kpar yX6_put 3 from ⟨by decide, by decide, by decide +kernel⟩) ⟨by decide, by decide⟩ (by show _ ≤ (0 : Nat); omega) (by show _ ≤ (0 : Nat); omega) rfl (by decide) dX6_spread_96 (fun v ad96 ct96 H locs hp hW hS => ?_)
          obtain ⟨h1, hk96, hc96⟩ := hp
          rw [h1] at hW
          rcases hc96 with ⟨s96, e96, rfl, hT96⟩ | ⟨e96, rfl, hT96⟩
          · obtain ⟨t7, t8, t9, t10, t11⟩ := id hT96
            refine lv_if_ne (tgt := 104) hx hb dX6_spread_99 (by decide) (fun c99 => ?_) (fun c99 => ?_)
            · try dsimp only at c99
              refine lv_aload_n hx hb dX6_spread_104 rfl (hL.at 0 rfl) ?_
              refine lv_aload_n hx hb dX6_spread_105 rfl (hL.at 0 rfl) ?_
              refine k_get (ci := 8) (C := RX6) (T := TX6) (N := 11) hx hb hts w_RX6 hown hK hW (by first | assumption | exact up_s | (rw [up_n (by omega)]; first | assumption | exact up_s | (rw [up_n (by omega)]; first | assumption | exact up_s | (rw [up_n (by omega)]; first | assumption | exact up_s | (rw [up_n (by omega)]; first | assumption | exact up_s | (rw [up_n (by omega)]; first | assumption | exact up_s)))))) rfl 8 (by decide) (hq _ q122 rfl) (fun _ h9 => h9) (by rfl) dX6_spread_106 ?_
              refine lv_aload_n hx hb dX6_spread_109 rfl (hL.at 0 rfl) ?_
              refine k_get (ci := 8) (C := RX6) (T := TX6) (N := 11) hx hb hts w_RX6 hown hK hW (by first | assumption | exact up_s | (rw [up_n (by omega)]; first | assumption | exact up_s | (rw [up_n (by omega)]; first | assumption | exact up_s | (rw [up_n (by omega)]; first | assumption | exact up_s | (rw [up_n (by omega)]; first | assumption | exact up_s | (rw [up_n (by omega)]; first | assumption | exact up_s)))))) rfl 1 (by decide) (hq _ q111 rfl) (fun _ h9 => h9) (by rfl) dX6_spread_110 ?_
              refine lv_iload hx hb dX6_spread_113 (hL.at 4 rfl) ?_
              refine k_dald hx hb hK hW (by first | assumption | exact up_s | (rw [up_n (by omega)]; first | assumption | exact up_s | (rw [up_n (by omega)]; first | assumption | exact up_s | (rw [up_n (by omega)]; first | assumption | exact up_s | (rw [up_n (by omega)]; first | assumption | exact up_s | (rw [up_n (by omega)]; first | assumption | exact up_s)))))) j (by omega) (by omega) rfl dX6_spread_115 ?_
              refine lv_aload_n hx hb dX6_spread_116 rfl (hL.at 0 rfl) ?_
              refine k_get (ci := 8) (C := RX6) (T := TX6) (N := 11) hx hb hts w_RX6 hown hK hW (by first | assumption | exact up_s | (rw [up_n (by omega)]; first | assumption | exact up_s | (rw [up_n (by omega)]; first | assumption | exact up_s | (rw [up_n (by omega)]; first | assumption | exact up_s | (rw [up_n (by omega)]; first | assumption | exact up_s | (rw [up_n (by omega)]; first | assumption | exact up_s)))))) rfl 0 (by decide) (hq _ q110 rfl) (fun _ h9 => h9) (by rfl) dX6_spread_117 ?_
              refine lv_iload hx hb dX6_spread_120 (hL.at 4 rfl) ?_
              refine k_dald hx hb hK hW (by first | assumption | exact up_s | (rw [up_n (by omega)]; first | assumption | exact up_s | (rw [up_n (by omega)]; first | assumption | exact up_s | (rw [up_n (by omega)]; first | assumption | exact up_s | (rw [up_n (by omega)]; first | assumption | exact up_s | (rw [up_n (by omega)]; first | assumption | exact up_s)))))) j (by omega) (by omega) rfl dX6_spread_122 ?_
              refine lv_dmul hx hb dX6_spread_123 hmul ?_
              refine lv_dadd hx hb dX6_spread_124 hadd ?_
              refine k_put (ci := 8) (C := RX6) (T := TX6) (N := 11) (ty := tyX6 8) hx hb hts w_RX6 tyX6 tyX6_ok nmX6 hown hK hW hS (by first | assumption | exact up_s | (rw [up_n (by omega)]; first | assumption | exact up_s | (rw [up_n (by omega)]; first | assumption | exact up_s | (rw [up_n (by omega)]; first | assumption | exact up_s | (rw [up_n (by omega)]; first | assumption | exact up_s | (rw [up_n (by omega)]; first | assumption | exact up_s)))))) (by omega) rfl 8 (by decide) (hq _ q122 rfl) (fun _ h9 => h9) rfl (by decide +kernel) rfl rfl (by first | exact Nat.le_of_ble_eq_true rfl | (simp only [List.length_set]; exact Nat.le_of_ble_eq_true rfl)) dX6_spread_125 (fun H locs hW hS => ?_)
              refine k_iinc hx hb hL (i := 4) rfl (by decide) dX6_spread_128 (fun ls hL => ?_)
              refine lv_goto (tgt := 60) hx hb dX6_spread_131 (by decide) ?_
              rw [show nI j + Int32.ofInt 1 = nI (j + 1) from nI_1 j] at hL
              exact ih60 (j + 1) _ s96 _ (by omega) (by omega) (by rw [← hl, fLay_go e96, show gg.1 - (j + 1) = d by omega]) (by rw [show gg.1 - (j + 1) = d by omega]; exact hnext _ e96) ⟨(by first | assumption | exact up_s | (rw [up_n (by omega)]; first | assumption | exact up_s | (rw [up_n (by omega)]; first | assumption | exact up_s | (rw [up_n (by omega)]; first | assumption | exact up_s | (rw [up_n (by omega)]; first | assumption | exact up_s | (rw [up_n (by omega)]; first | assumption | exact up_s)))))), (by first | assumption | exact up_s | (rw [up_n (by omega)]; first | assumption | exact up_s | (rw [up_n (by omega)]; first | assumption | exact up_s | (rw [up_n (by omega)]; first | assumption | exact up_s | (rw [up_n (by omega)]; first | assumption | exact up_s | (rw [up_n (by omega)]; first | assumption | exact up_s)))))), (by first | assumption | exact up_s | (rw [up_n (by omega)]; first | assumption | exact up_s | (rw [up_n (by omega)]; first | assumption | exact up_s | (rw [up_n (by omega)]; first | assumption | exact up_s | (rw [up_n (by omega)]; first | assumption | exact up_s | (rw [up_n (by omega)]; first | assumption | exact up_s)))))), (by first | assumption | exact up_s | (rw [up_n (by omega)]; first | assumption | exact up_s | (rw [up_n (by omega)]; first | assumption | exact up_s | (rw [up_n (by omega)]; first | assumption | exact up_s | (rw [up_n (by omega)]; first | assumption | exact up_s | (rw [up_n (by omega)]; first | assumption | exact up_s)))))), (by first | assumption | exact up_s | (rw [up_n (by omega)]; first | assumption | exact up_s | (rw [up_n (by omega)]; first | assumption | exact up_s | (rw [up_n (by omega)]; first | assumption | exact up_s | (rw [up_n (by omega)]; first | assumption | exact up_s | (rw [up_n (by omega)]; first | assumption | exact up_s))))))⟩ ((hko1.tr hk96).up (by omega) (by omega)) _ _ _ hW hS hL
            · try dsimp only at c99
              exact absurd c99 (by decide)
          · refine lv_if_ne (tgt := 104) hx hb dX6_spread_99 (by decide) (fun c99 => ?_) (fun c99 => ?_)
            · try dsimp only at c99
              exact absurd c99 (by decide)
            · try dsimp only at c99
              refine lv_iconst (v := 0) hx hb dX6_spread_102 (by decide) ?_
              rw [hQ]
              exact k_zret hx hb hr hlocks rfl hW hS (by omega) (by omega) dX6_spread_103 (⟨rfl, hko1.tr hk96, Or.inr ⟨by rw [← hl]; exact fLay_no e96, rfl, cov1, s1, hT96⟩⟩)
  exact loop60 (gg.1 + 1) 0 cD0 (0, 0, cD0, fh, fr) _ (by omega) (Nat.zero_le _) rfl hrun hT54 hko54 _ _ _ hW hS hL
