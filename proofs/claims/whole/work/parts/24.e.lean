/-! the table, 3 -/
set_option maxHeartbeats 4000000 in
set_option maxRecDepth 100000 in
/-- TailorBench$Table.gather  -/
theorem c_gather {l : Launch} {D : va_G} {cy : Nat → ClassId} {sad : Nat → Nat} {em : Nat} {s0 : State} {a0 : Array Value} (G : kG kSTR l D cy sad em s0 a0) {ad : Nat → Nat} {ct : Nat → Option va_E} {M : tM} (hm : RepC cy ad ct M) (ho : okM M) {i : Nat} (hi : i < mO M) {jc : Nat} (hc : jc < mC M) {tb : tTb} {fl fw fh fr : Nat → UInt64} (hT : RepT cy ad ct tb fl fw fh fr) (hok : ∀ j, j < (mst M (oS (mod M i))).1 → okGath (mpe M (oP (mod M i))) (fLeft (mcl M jc).2.2.1) ((mst M (oS (mod M i))).2.1 j)) (hn40 : tb.1 + fCnt (mst M (oS (mod M i))).2.1 (mst M (oS (mod M i))).1 ≤ 40) :
    KM l yX6_gather [.code yX6_gather prog_8_method_4_code 12 none] 3 64 0 0 [.ref (ad 7), .ref (ad (64 + i)), .ref (ad (16 + jc))] D s0 ad ct (fun v ad' ct' => v = none ∧ ad' = ad ∧ kOut ct ct' ∧ RepT cy ad ct' ((gOrd (mpe M (oP (mod M i))) (fLeft (mcl M jc).2.2.1) (mst M (oS (mod M i))).2.1 (mst M (oS (mod M i))).1 0 (tb.1, fw, fl)).1, tb.2) (gOrd (mpe M (oP (mod M i))) (fLeft (mcl M jc).2.2.1) (mst M (oS (mod M i))).2.1 (mst M (oS (mod M i))).1 0 (tb.1, fw, fl)).2.2 (gOrd (mpe M (oP (mod M i))) (fLeft (mcl M jc).2.2.1) (mst M (oS (mod M i))).2.1 (mst M (oS (mod M i))).1 0 (tb.1, fw, fl)).2.1 fh fr) := by
  refine KM.of G (by decide) (Nat.le_of_ble_eq_true rfl) (Nat.le_of_ble_eq_true rfl) ?_
  intro p e s m args below meth c ls Q hQ X hin hL hW hS
  obtain ⟨hx, hb, hr, hml, hown, hlocks, hts, hq, hK, hI⟩ := X
  have hC := hm.2.2.1 jc hc
  have hkc := (ho.2.1 jc hc).1
  refine lv_aload_n hx hb dX6_gather_0 rfl (hL.at 2 rfl) ?_
  refine k_callVN (q := (RX0, TX0, 6)) (host := "TailorBench") hx hb hml hown hts hK hI hS hW hL.1 (by first | assumption | exact up_s | (rw [up_n (by omega)]; first | assumption | exact up_s | (rw [up_n (by omega)]; first | assumption | exact up_s | (rw [up_n (by omega)]; first | assumption | exact up_s | (rw [up_n (by omega)]; first | assumption | exact up_s | (rw [up_n (by omega)]; first | assumption | exact up_s)))))) rfl (c_left G hC (by omega)) (gT_in q374 rfl) (hq _ q370 rfl) (hq _ q66 rfl) (hq _ q372 rfl) (hq _ q9 rfl) (show kpar yX0_leftByWashing 0 from ⟨by decide, by decide, by decide +kernel⟩) ⟨by decide, by decide⟩ (by show _ ≤ (0 : Nat); omega) (by show _ ≤ (0 : Nat); omega) rfl (by decide) dX6_gather_1 (fun v ad1 ct1 H locs hp hW hS => ?_)
  obtain ⟨rfl, h1, h2⟩ := hp
  rw [h1, h2] at hW
  refine k_dst_n hx hb hL (i := 3) rfl (by decide) dX6_gather_4 (fun ls hL => ?_)
  refine lv_iconst (v := 0) hx hb dX6_gather_5 (by decide) ?_
  refine k_ist hx hb hL (i := 5) (by decide) dX6_gather_6 (fun ls hL => ?_)
  have loop8 : ∀ (nf : Nat) (j : Nat) (g0 : tGs) (ct0 : Nat → Option va_E), (mst M (oS (mod M i))).1 - j < nf → j ≤ (mst M (oS (mod M i))).1 → gOrd (mpe M (oP (mod M i))) (fLeft (mcl M jc).2.2.1) (mst M (oS (mod M i))).2.1 ((mst M (oS (mod M i))).1 - j) j g0 = gOrd (mpe M (oP (mod M i))) (fLeft (mcl M jc).2.2.1) (mst M (oS (mod M i))).2.1 (mst M (oS (mod M i))).1 0 (tb.1, fw, fl) → RepT cy ad ct0 (g0.1, tb.2) g0.2.2 g0.2.1 fh fr → kOut ct ct0 → g0.1 + fCnt (mst M (oS (mod M i))).2.1 (mst M (oS (mod M i))).1 ≤ 40 + fCnt (mst M (oS (mod M i))).2.1 j → ∀ (H : Heap) (locs : List Loc) (ls : Array Slot), kW D s0.heap.size ad ct0 H → va_S (kA s0) s.heap H locs → lvP ls 12 [some (.ref (ad 7)), some (.ref (ad (64 + i))), some (.ref (ad (16 + jc))), some (.double (fLeft (mcl M jc).2.2.1)), none, some (.int (nI j)), none, none, none, none, none, none] → W p l e (krm 3 64 0 0) s m args below meth c H locs 0 0 Q (F0 m 8 ls []) := by
    intro nf
    induction nf with
    | zero => intro j g0 ct0 hms8; exact absurd hms8 (Nat.not_lt_zero _)
    | succ nf ih8 =>
      intro j g0 ct0 hms8 hj hg hT0 hko hn H locs ls hW hS hL
      have hm0 := hm.out ho hko
      obtain ⟨oo, ob, os, oa, op, ow, oms, o5, ok, opos, ost⟩ := hm0.ord ho hi
      obtain ⟨t7, t8, t9, t10, t11⟩ := id hT0
      refine lv_iload hx hb dX6_gather_8 (hL.at 5 rfl) ?_
      refine lv_aload_n hx hb dX6_gather_10 rfl (hL.at 1 rfl) ?_
      refine k_getN (ci := 4) (C := RX2) (T := TX2) (N := 10) hx hb hts w_RX2 hown hK hW (by first | assumption | exact up_s | (rw [up_n (by omega)]; first | assumption | exact up_s | (rw [up_n (by omega)]; first | assumption | exact up_s | (rw [up_n (by omega)]; first | assumption | exact up_s | (rw [up_n (by omega)]; first | assumption | exact up_s | (rw [up_n (by omega)]; first | assumption | exact up_s)))))) rfl 1 (by decide) (hq _ q673 rfl) (fun _ h9 => h9) (by rfl) dX6_gather_11 ?_
      refine k_getN (ci := 7) (C := RX5) (T := TX5) (N := 5) hx hb hts w_RX5 hown hK hW (by first | assumption | exact up_s | (rw [up_n (by omega)]; first | assumption | exact up_s | (rw [up_n (by omega)]; first | assumption | exact up_s | (rw [up_n (by omega)]; first | assumption | exact up_s | (rw [up_n (by omega)]; first | assumption | exact up_s | (rw [up_n (by omega)]; first | assumption | exact up_s)))))) rfl 2 (by decide) (hq _ q580 rfl) (fun _ h9 => h9) (by rfl) dX6_gather_14 ?_
      refine lv_icmp_ge (tgt := 99) hx hb dX6_gather_17 (by decide) (fun c17 => ?_) (fun c17 => ?_)
      · try dsimp only at c17
        have ej : j = (mst M (oS (mod M i))).1 := by have := (nI_leI (by omega) (by omega)).mp c17; omega
        rw [hQ]
        exact k_vret hx hb hr hlocks hW hS (by omega) (by omega) dX6_gather_99 (⟨rfl, rfl, hko, by rw [← hg, ej, Nat.sub_self]; exact hT0⟩)
      · try dsimp only at c17
        have hlt : j < (mst M (oS (mod M i))).1 := by
          rcases Nat.lt_or_ge j (mst M (oS (mod M i))).1 with q | q
          · exact q
          · exact absurd (nI_le q (by omega)) c17
        have hfc := fCnt_le (mst M (oS (mod M i))).2.1 (show j + 1 ≤ (mst M (oS (mod M i))).1 from hlt)
        have hfd : fCnt (mst M (oS (mod M i))).2.1 (j + 1) = fCnt (mst M (oS (mod M i))).2.1 j + ((mst M (oS (mod M i))).2.1 j).2.2.2 := rfl
        refine lv_aload_n hx hb dX6_gather_20 rfl (hL.at 1 rfl) ?_
        refine k_getN (ci := 4) (C := RX2) (T := TX2) (N := 10) hx hb hts w_RX2 hown hK hW (by first | assumption | exact up_s | (rw [up_n (by omega)]; first | assumption | exact up_s | (rw [up_n (by omega)]; first | assumption | exact up_s | (rw [up_n (by omega)]; first | assumption | exact up_s | (rw [up_n (by omega)]; first | assumption | exact up_s | (rw [up_n (by omega)]; first | assumption | exact up_s)))))) rfl 1 (by decide) (hq _ q673 rfl) (fun _ h9 => h9) (by rfl) dX6_gather_21 ?_
        refine k_getN (ci := 7) (C := RX5) (T := TX5) (N := 5) hx hb hts w_RX5 hown hK hW (by first | assumption | exact up_s | (rw [up_n (by omega)]; first | assumption | exact up_s | (rw [up_n (by omega)]; first | assumption | exact up_s | (rw [up_n (by omega)]; first | assumption | exact up_s | (rw [up_n (by omega)]; first | assumption | exact up_s | (rw [up_n (by omega)]; first | assumption | exact up_s)))))) rfl 1 (by decide) (hq _ q577 rfl) (fun _ h9 => h9) (by rfl) dX6_gather_24 ?_
        refine lv_iload hx hb dX6_gather_27 (hL.at 5 rfl) ?_
        refine k_aald hx hb hK hW 9 (by first | assumption | exact up_s | (rw [up_n (by omega)]; first | assumption | exact up_s | (rw [up_n (by omega)]; first | assumption | exact up_s | (rw [up_n (by omega)]; first | assumption | exact up_s | (rw [up_n (by omega)]; first | assumption | exact up_s | (rw [up_n (by omega)]; first | assumption | exact up_s)))))) rfl j (by omega) (by omega) rfl (kqs_at hlt) dX6_gather_29 ?_
        refine k_ast hx hb hL (i := 6) (by decide) dX6_gather_30 (fun ls hL => ?_)
        refine lv_aload hx hb dX6_gather_32 (hL.at 6 rfl) ?_
        refine lv_aload_n hx hb dX6_gather_34 rfl (hL.at 1 rfl) ?_
        refine k_getN (ci := 4) (C := RX2) (T := TX2) (N := 10) hx hb hts w_RX2 hown hK hW (by first | assumption | exact up_s | (rw [up_n (by omega)]; first | assumption | exact up_s | (rw [up_n (by omega)]; first | assumption | exact up_s | (rw [up_n (by omega)]; first | assumption | exact up_s | (rw [up_n (by omega)]; first | assumption | exact up_s | (rw [up_n (by omega)]; first | assumption | exact up_s)))))) rfl 0 (by decide) (hq _ q670 rfl) (fun _ h9 => h9) (by rfl) dX6_gather_35 ?_
        refine k_callVN (q := (RX4, TX4, 4)) (host := "TailorBench") hx hb hml hown hts hK hI hS hW hL.1 (op j hlt) rfl (c_bodyFor G (op j hlt) ow oms (ok j hlt)) (gT_in q344 rfl) (hq _ q375 rfl) (hq _ q77 rfl) (hq _ q342 rfl) (hq _ q5 rfl) (show kpar yX4_bodyFor 1 from ⟨by decide, by decide, by decide +kernel⟩) ⟨by decide, by decide⟩ (by show _ ≤ (0 : Nat); omega) (by show _ ≤ (0 : Nat); omega) rfl (by decide) dX6_gather_38 (fun v ad38 ct38 H locs hp hW hS => ?_)
        obtain ⟨rfl, h1, h2⟩ := hp
        rw [h1, h2] at hW
        refine lv_ldc2d hx hb hown (hq _ q376 rfl) dX6_gather_41 ?_
        refine lv_dadd hx hb dX6_gather_44 (hok j hlt).1 ?_
        refine lv_dload_n hx hb dX6_gather_45 rfl (hL.at 3 rfl) ?_
        refine lv_ddiv hx hb dX6_gather_46 (hok j hlt).2.2.1 ?_
        refine k_dst hx hb hL (i := 7) (by decide) dX6_gather_47 (fun ls hL => ?_)
        refine lv_aload hx hb dX6_gather_49 (hL.at 6 rfl) ?_
        refine lv_aload_n hx hb dX6_gather_51 rfl (hL.at 1 rfl) ?_
        refine k_getN (ci := 4) (C := RX2) (T := TX2) (N := 10) hx hb hts w_RX2 hown hK hW (by first | assumption | exact up_s | (rw [up_n (by omega)]; first | assumption | exact up_s | (rw [up_n (by omega)]; first | assumption | exact up_s | (rw [up_n (by omega)]; first | assumption | exact up_s | (rw [up_n (by omega)]; first | assumption | exact up_s | (rw [up_n (by omega)]; first | assumption | exact up_s)))))) rfl 0 (by decide) (hq _ q670 rfl) (fun _ h9 => h9) (by rfl) dX6_gather_52 ?_
        refine k_callVN (q := (RX4, TX4, 4)) (host := "TailorBench") hx hb hml hown hts hK hI hS hW hL.1 (op j hlt) rfl (c_tallFor G (op j hlt) ow oms (ok j hlt)) (gT_in q380 rfl) (hq _ q377 rfl) (hq _ q77 rfl) (hq _ q379 rfl) (hq _ q10 rfl) (show kpar yX4_tallFor 1 from ⟨by decide, by decide, by decide +kernel⟩) ⟨by decide, by decide⟩ (by show _ ≤ (0 : Nat); omega) (by show _ ≤ (0 : Nat); omega) rfl (by decide) dX6_gather_55 (fun v ad55 ct55 H locs hp hW hS => ?_)
        obtain ⟨rfl, h1, h2⟩ := hp
        rw [h1, h2] at hW
        refine lv_ldc2d hx hb hown (hq _ q376 rfl) dX6_gather_58 ?_
        refine lv_dadd hx hb dX6_gather_61 (hok j hlt).2.1 ?_
        refine lv_dload_n hx hb dX6_gather_62 rfl (hL.at 3 rfl) ?_
        refine lv_ddiv hx hb dX6_gather_63 (hok j hlt).2.2.2 ?_
        refine k_dst hx hb hL (i := 9) (by decide) dX6_gather_64 (fun ls hL => ?_)
        refine lv_iconst (v := 0) hx hb dX6_gather_66 (by decide) ?_
        refine k_ist hx hb hL (i := 11) (by decide) dX6_gather_67 (fun ls hL => ?_)
        have hok4 := (ok j hlt).2.2.2.2
        have loop69 : ∀ (nf : Nat) (k : Nat) (g1 : tGs) (ct1 : Nat → Option va_E), ((mst M (oS (mod M i))).2.1 j).2.2.2 - k < nf → k ≤ ((mst M (oS (mod M i))).2.1 j).2.2.2 → gOne (fWide (mpe M (oP (mod M i))) (fLeft (mcl M jc).2.2.1) ((mst M (oS (mod M i))).2.1 j)) (fLong (mpe M (oP (mod M i))) (fLeft (mcl M jc).2.2.1) ((mst M (oS (mod M i))).2.1 j)) (((mst M (oS (mod M i))).2.1 j).2.2.2 - k) g1 = gOne (fWide (mpe M (oP (mod M i))) (fLeft (mcl M jc).2.2.1) ((mst M (oS (mod M i))).2.1 j)) (fLong (mpe M (oP (mod M i))) (fLeft (mcl M jc).2.2.1) ((mst M (oS (mod M i))).2.1 j)) ((mst M (oS (mod M i))).2.1 j).2.2.2 g0 → RepT cy ad ct1 (g1.1, tb.2) g1.2.2 g1.2.1 fh fr → kOut ct ct1 → g1.1 + (((mst M (oS (mod M i))).2.1 j).2.2.2 - k) ≤ 40 → ∀ (H : Heap) (locs : List Loc) (ls : Array Slot), kW D s0.heap.size ad ct1 H → va_S (kA s0) s.heap H locs → lvP ls 12 [some (.ref (ad 7)), some (.ref (ad (64 + i))), some (.ref (ad (16 + jc))), some (.double (fLeft (mcl M jc).2.2.1)), none, some (.int (nI j)), some (.ref (ad (40 + 5 * oS (mod M i) + j))), some (.double (fWide (mpe M (oP (mod M i))) (fLeft (mcl M jc).2.2.1) ((mst M (oS (mod M i))).2.1 j))), none, some (.double (fLong (mpe M (oP (mod M i))) (fLeft (mcl M jc).2.2.1) ((mst M (oS (mod M i))).2.1 j))), none, some (.int (nI k))] → W p l e (krm 3 64 0 0) s m args below meth c H locs 0 0 Q (F0 m 69 ls []) := by
          intro nf
          induction nf with
          | zero => intro k g1 ct1 hms69; exact absurd hms69 (Nat.not_lt_zero _)
          | succ nf ih69 =>
            intro k g1 ct1 hms69 hk hg1 hT1 hko1 hn1 H locs ls hW hS hL
            have hm1 := hm.out ho hko1
            have hop1 := (hm1.ord ho hi).2.2.2.2.1 j hlt
            obtain ⟨t7, t8, t9, t10, t11⟩ := id hT1
            refine lv_iload hx hb dX6_gather_69 (hL.at 11 rfl) ?_
            refine lv_aload hx hb dX6_gather_71 (hL.at 6 rfl) ?_
            refine k_getN (ci := 6) (C := RX4) (T := TX4) (N := 4) hx hb hts w_RX4 hown hK hW hop1 rfl 3 (by decide) (hq _ q622 rfl) (fun _ h9 => h9) (by rfl) dX6_gather_73 ?_
            refine lv_icmp_ge (tgt := 93) hx hb dX6_gather_76 (by decide) (fun c76 => ?_) (fun c76 => ?_)
            · try dsimp only at c76
              have ek : k = ((mst M (oS (mod M i))).2.1 j).2.2.2 := by have := (nI_leI (by omega) (by omega)).mp c76; omega
              have eg : g1 = gOne (fWide (mpe M (oP (mod M i))) (fLeft (mcl M jc).2.2.1) ((mst M (oS (mod M i))).2.1 j)) (fLong (mpe M (oP (mod M i))) (fLeft (mcl M jc).2.2.1) ((mst M (oS (mod M i))).2.1 j)) ((mst M (oS (mod M i))).2.1 j).2.2.2 g0 := by rw [← hg1, ek, Nat.sub_self]; rfl
              have en : g1.1 = g0.1 + ((mst M (oS (mod M i))).2.1 j).2.2.2 := by rw [eg]; exact gOne_n _ _ _ _
              refine k_iinc hx hb hL (i := 5) rfl (by decide) dX6_gather_93 (fun ls hL => ?_)
              refine lv_goto (tgt := 8) hx hb dX6_gather_96 (by decide) ?_
              rw [show nI j + Int32.ofInt 1 = nI (j + 1) from nI_1 j] at hL
              exact ih8 (j + 1) g1 ct1 (by omega) (by omega) (by rw [← hg, show (mst M (oS (mod M i))).1 - j = ((mst M (oS (mod M i))).1 - (j + 1)) + 1 by omega, eg]; rfl) hT1 hko1 (by omega) _ _ _ hW hS (hL.le (by repeat (first | exact kle_nil | refine kle_same ?_ | refine kle_drop ?_)))
            · try dsimp only at c76
              have hltk : k < ((mst M (oS (mod M i))).2.1 j).2.2.2 := by
                rcases Nat.lt_or_ge k (((mst M (oS (mod M i))).2.1 j).2.2.2) with q | q
                · exact q
                · exact absurd (nI_le q (by omega)) c76
              refine lv_aload_n hx hb dX6_gather_79 rfl (hL.at 0 rfl) ?_
              refine lv_dload hx hb dX6_gather_80 (hL.at 7 rfl) ?_
              refine lv_dload hx hb dX6_gather_82 (hL.at 9 rfl) ?_
              refine k_callV (q := (RX6, TX6, 11)) hx hb hml hown hts hK hI hS hW hL.1 (by first | assumption | exact up_s | (rw [up_n (by omega)]; first | assumption | exact up_s | (rw [up_n (by omega)]; first | assumption | exact up_s | (rw [up_n (by omega)]; first | assumption | exact up_s | (rw [up_n (by omega)]; first | assumption | exact up_s | (rw [up_n (by omega)]; first | assumption | exact up_s)))))) rfl (c_sortIn G hT1 (fWide (mpe M (oP (mod M i))) (fLeft (mcl M jc).2.2.1) ((mst M (oS (mod M i))).2.1 j)) (fLong (mpe M (oP (mod M i))) (fLeft (mcl M jc).2.2.1) ((mst M (oS (mod M i))).2.1 j)) (show g1.1 < 40 by omega)) (m5 (gT_in q381 rfl) (gT_in q383 rfl) (gT_in q11 rfl) (gT_in q56 rfl) (gT_in q384 rfl)) rfl (show kpar yX6_sortIn 2 from ⟨by decide, by decide, by decide +kernel⟩) ⟨by decide, by decide⟩ (by show _ ≤ (0 : Nat); omega) (by show _ ≤ (0 : Nat); omega) rfl (by decide) dX6_gather_84 (fun v ad84 ct84 H locs hp hW hS => ?_)
              obtain ⟨rfl, h1, hT2, hk2⟩ := hp
              rw [h1] at hW
              refine k_iinc hx hb hL (i := 11) rfl (by decide) dX6_gather_87 (fun ls hL => ?_)
              refine lv_goto (tgt := 69) hx hb dX6_gather_90 (by decide) ?_
              rw [show nI k + Int32.ofInt 1 = nI (k + 1) from nI_1 k] at hL
              exact ih69 (k + 1) (g1.1 + 1, (kIns (fWide (mpe M (oP (mod M i))) (fLeft (mcl M jc).2.2.1) ((mst M (oS (mod M i))).2.1 j)) (fLong (mpe M (oP (mod M i))) (fLeft (mcl M jc).2.2.1) ((mst M (oS (mod M i))).2.1 j)) g1.1 g1.2.1 g1.2.2).1, (kIns (fWide (mpe M (oP (mod M i))) (fLeft (mcl M jc).2.2.1) ((mst M (oS (mod M i))).2.1 j)) (fLong (mpe M (oP (mod M i))) (fLeft (mcl M jc).2.2.1) ((mst M (oS (mod M i))).2.1 j)) g1.1 g1.2.1 g1.2.2).2) _ (by omega) (by omega) (by rw [← hg1, show ((mst M (oS (mod M i))).2.1 j).2.2.2 - k = (((mst M (oS (mod M i))).2.1 j).2.2.2 - (k + 1)) + 1 by omega]; rfl) hT2 (hko1.tr hk2) (by show g1.1 + 1 + _ ≤ 40; omega) _ _ _ hW hS hL
        exact loop69 (((mst M (oS (mod M i))).2.1 j).2.2.2 + 1) 0 g0 ct0 (by omega) (Nat.zero_le _) rfl hT0 hko (by omega) _ _ _ hW hS hL
  exact loop8 ((mst M (oS (mod M i))).1 + 1) 0 (tb.1, fw, fl) ct (by omega) (Nat.zero_le _) rfl hT kOut.rf (by show tb.1 + _ ≤ 40 + 0; omega) _ _ _ hW hS hL
