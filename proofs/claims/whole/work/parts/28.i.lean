/-! what is asked, 2 -/
set_option maxHeartbeats 4000000 in
set_option maxRecDepth 100000 in
/-- TailorBench.soonest  -/
theorem c_qsoonest {l : Launch} {D : va_G} {cy : Nat → ClassId} {sad : Nat → Nat} {em : Nat} {s0 : State} {a0 : Array Value} (G : kG kSTR l D cy sad em s0 a0) {ad : Nat → Nat} {ct : Nat → Option va_E} {M : tM} (hm : RepC cy ad ct M) (ho : okM M) (x : Int32) {nb : Nat} (hN : okN nb M) (hnb : nb ≤ 512) :
    KX l yX7_soonest [.code yX7_soonest prog_1_method_28_code 9 (some .int)] 7 120 2 12 [.ref (ad 1), .int x] D s0 ad ct (fun v ad' ct' => ∃ i, i < mO M ∧ x = nI i ∧ v = some (.int (fSn M i (mH M) 0 (-1) cD0)) ∧ ad' = ad ∧ ct' = ct) (fun E => E = eIdx ∧ ¬ kIn x (mO M)) := by
  refine KX.of G (by decide) (Nat.le_of_ble_eq_true rfl) (Nat.le_of_ble_eq_true rfl) ?_
  intro p e s m args below meth c ls Q hQ X hin hL hW hS
  obtain ⟨hx, hb, hr, hml, hown, hlocks, hts, hq, hK, hI⟩ := X
  have hbn := ho.1
  have hs1 := hm.1
  have ha5 := hm.2.1.2.2.2.1
  refine lv_aload_n hx hb dX7_soonest_0 rfl (hL.at 0 rfl) ?_
  refine lv_iload_n hx hb dX7_soonest_1 rfl (hL.at 1 rfl) ?_
  refine k_callVX (q := (RX7, TX7, 15)) hx hb hml hown hts hK hI hS hW hL.1 (by first | assumption | exact up_s | (rw [up_n (by omega)]; first | assumption | exact up_s | (rw [up_n (by omega)]; first | assumption | exact up_s | (rw [up_n (by omega)]; first | assumption | exact up_s | (rw [up_n (by omega)]; first | assumption | exact up_s | (rw [up_n (by omega)]; first | assumption | exact up_s | (rw [up_n (by omega)]; first | assumption | exact up_s | (rw [up_n (by omega)]; first | assumption | exact up_s | (rw [up_n (by omega)]; first | assumption | exact up_s | (rw [up_n (by omega)]; first | assumption | exact up_s | (rw [up_n (by omega)]; first | assumption | exact up_s | (rw [up_n (by omega)]; first | assumption | exact up_s)))))))))))) rfl (c_orderAt G hm ho x) (m5 (gT_in q325 rfl) (gT_in q327 rfl) (gT_in q3 rfl) (gT_in q55 rfl) (gT_in q328 rfl)) rfl (show kpar yX7_orderAt 1 from ⟨by decide, by decide, by decide +kernel⟩) ⟨by decide, by decide⟩ (by show _ ≤ (2 : Nat); omega) (by show _ ≤ (12 : Nat); omega) rfl (by decide) dX7_soonest_2 (fun E ce q9 H locs hp hW hS hce hcv hcl => ?_) (fun v ad2 ct2 H locs hp hW hS => ?_)
  · rw [hQ]; exact k_out hown hlocks hin hW hS hce hcv hcl (by omega) (by omega) (hp)
  obtain ⟨i, hi, hxi, rfl, h1, h2⟩ := hp
  rw [h1, h2] at hW
  refine k_ast_n hx hb hL (i := 2) rfl (by decide) dX7_soonest_5 (fun ls hL => ?_)
  refine lv_iconst (v := (-1)) hx hb dX7_soonest_6 (by decide) ?_
  refine k_ist_n hx hb hL (i := 3) rfl (by decide) dX7_soonest_7 (fun ls hL => ?_)
  refine lv_dconst0 hx hb dX7_soonest_8 ?_
  refine k_dst hx hb hL (i := 4) (by decide) dX7_soonest_9 (fun ls hL => ?_)
  refine lv_iconst (v := 0) hx hb dX7_soonest_11 (by decide) ?_
  refine k_ist hx hb hL (i := 6) (by decide) dX7_soonest_12 (fun ls hL => ?_)
  have loop14 : ∀ (nf : Nat) (j : Nat) (bb : Int32) (ff : UInt64), mH M - j < nf → j ≤ mH M → fSn M i (mH M - j) j bb ff = fSn M i (mH M) 0 (-1) cD0 → ∀ (H : Heap) (locs : List Loc) (ls : Array Slot), kW D s0.heap.size ad ct H → va_S (kA s0) s.heap H locs → lvP ls 9 [some (.ref (ad 1)), some (.int x), some (.ref (ad (64 + i))), some (.int bb), some (.double ff), none, some (.int (nI j)), none, none] → W p l e (krm 7 120 2 12) s m args below meth c H locs 1 6 Q (F0 m 14 ls []) := by
    intro nf
    induction nf with
    | zero => intro j bb ff hms14; exact absurd hms14 (Nat.not_lt_zero _)
    | succ nf ih14 =>
      intro j bb ff hms14 hj hl H locs ls hW hS hL
      refine lv_iload hx hb dX7_soonest_14 (hL.at 6 rfl) ?_
      refine lv_aload_n hx hb dX7_soonest_16 rfl (hL.at 0 rfl) ?_
      refine k_get (ci := 9) (C := RX7) (T := TX7) (N := 15) hx hb hts w_RX7 hown hK hW (by first | assumption | exact up_s | (rw [up_n (by omega)]; first | assumption | exact up_s | (rw [up_n (by omega)]; first | assumption | exact up_s | (rw [up_n (by omega)]; first | assumption | exact up_s | (rw [up_n (by omega)]; first | assumption | exact up_s | (rw [up_n (by omega)]; first | assumption | exact up_s | (rw [up_n (by omega)]; first | assumption | exact up_s | (rw [up_n (by omega)]; first | assumption | exact up_s | (rw [up_n (by omega)]; first | assumption | exact up_s | (rw [up_n (by omega)]; first | assumption | exact up_s | (rw [up_n (by omega)]; first | assumption | exact up_s | (rw [up_n (by omega)]; first | assumption | exact up_s)))))))))))) rfl 9 (by decide) (hq _ q158 rfl) (fun _ h9 => h9) (by rfl) dX7_soonest_17 ?_
      refine lv_icmp_ge (tgt := 63) hx hb dX7_soonest_20 (by decide) (fun c20 => ?_) (fun c20 => ?_)
      · try dsimp only at c20
        have ej : j = mH M := by have := (nI_leI (by omega) (by omega)).mp c20; omega
        refine lv_iload_n hx hb dX7_soonest_63 rfl (hL.at 3 rfl) ?_
        rw [hQ]
        exact vx_ret (k_iret hx hb hr hlocks hW hS (by omega) (by omega) dX7_soonest_64 (⟨i, hi, hxi, by rw [← hl, ej, Nat.sub_self]; rfl, rfl, rfl⟩))
      · try dsimp only at c20
        have hlt : j < mH M := by
          rcases Nat.lt_or_ge j (mH M) with q | q
          · exact q
          · exact absurd (nI_le q (by omega)) c20
        refine lv_aload_n hx hb dX7_soonest_23 rfl (hL.at 0 rfl) ?_
        refine lv_aload_n hx hb dX7_soonest_24 rfl (hL.at 2 rfl) ?_
        refine lv_aload_n hx hb dX7_soonest_25 rfl (hL.at 0 rfl) ?_
        refine k_get (ci := 9) (C := RX7) (T := TX7) (N := 15) hx hb hts w_RX7 hown hK hW (by first | assumption | exact up_s | (rw [up_n (by omega)]; first | assumption | exact up_s | (rw [up_n (by omega)]; first | assumption | exact up_s | (rw [up_n (by omega)]; first | assumption | exact up_s | (rw [up_n (by omega)]; first | assumption | exact up_s | (rw [up_n (by omega)]; first | assumption | exact up_s | (rw [up_n (by omega)]; first | assumption | exact up_s | (rw [up_n (by omega)]; first | assumption | exact up_s | (rw [up_n (by omega)]; first | assumption | exact up_s | (rw [up_n (by omega)]; first | assumption | exact up_s | (rw [up_n (by omega)]; first | assumption | exact up_s | (rw [up_n (by omega)]; first | assumption | exact up_s)))))))))))) rfl 3 (by decide) (hq _ q152 rfl) (fun _ h9 => h9) (by rfl) dX7_soonest_26 ?_
        refine lv_iload hx hb dX7_soonest_29 (hL.at 6 rfl) ?_
        refine k_aald hx hb hK hW 7 (by first | assumption | exact up_s | (rw [up_n (by omega)]; first | assumption | exact up_s | (rw [up_n (by omega)]; first | assumption | exact up_s | (rw [up_n (by omega)]; first | assumption | exact up_s | (rw [up_n (by omega)]; first | assumption | exact up_s | (rw [up_n (by omega)]; first | assumption | exact up_s | (rw [up_n (by omega)]; first | assumption | exact up_s | (rw [up_n (by omega)]; first | assumption | exact up_s | (rw [up_n (by omega)]; first | assumption | exact up_s | (rw [up_n (by omega)]; first | assumption | exact up_s | (rw [up_n (by omega)]; first | assumption | exact up_s | (rw [up_n (by omega)]; first | assumption | exact up_s)))))))))))) rfl j (by omega) (by omega) rfl (kqs_at hlt) dX7_soonest_31 ?_
        refine k_callV (q := (RX7, TX7, 15)) hx hb hml hown hts hK hI hS hW hL.1 (by first | assumption | exact up_s | (rw [up_n (by omega)]; first | assumption | exact up_s | (rw [up_n (by omega)]; first | assumption | exact up_s | (rw [up_n (by omega)]; first | assumption | exact up_s | (rw [up_n (by omega)]; first | assumption | exact up_s | (rw [up_n (by omega)]; first | assumption | exact up_s | (rw [up_n (by omega)]; first | assumption | exact up_s | (rw [up_n (by omega)]; first | assumption | exact up_s | (rw [up_n (by omega)]; first | assumption | exact up_s | (rw [up_n (by omega)]; first | assumption | exact up_s | (rw [up_n (by omega)]; first | assumption | exact up_s | (rw [up_n (by omega)]; first | assumption | exact up_s)))))))))))) rfl (c_endOf G hm ho hi hlt (okEndM ho hN hnb hi hlt)) (m5 (gT_in q408 rfl) (gT_in q410 rfl) (gT_in q16 rfl) (gT_in q55 rfl) (gT_in q411 rfl)) rfl (show kpar yX7_endOfSewing 2 from ⟨by decide, by decide, by decide +kernel⟩) ⟨by decide, by decide⟩ (by show _ ≤ (2 : Nat); omega) (by show _ ≤ (12 : Nat); omega) rfl (by decide) dX7_soonest_32 (fun v ad32 ct32 H locs hp hW hS => ?_)
        obtain ⟨rfl, h1, h2⟩ := hp
        rw [h1, h2] at hW
        refine k_dst hx hb hL (i := 7) (by decide) dX7_soonest_35 (fun ls hL => ?_)
        refine lv_iload_n hx hb dX7_soonest_37 rfl (hL.at 3 rfl) ?_
        refine lv_iconst (v := (-1)) hx hb dX7_soonest_38 (by decide) ?_
        refine lv_icmp_eq (tgt := 50) hx hb dX7_soonest_39 (by decide) (fun c39 => ?_) (fun c39 => ?_)
        · try dsimp only at c39
          have hB : ∀ d, fSn M i (d + 1) j bb ff = _ := fun d => fSn_p (Or.inl c39)
          refine lv_iload hx hb dX7_soonest_50 (hL.at 6 rfl) ?_
          refine k_ist_n hx hb hL (i := 3) rfl (by decide) dX7_soonest_52 (fun ls hL => ?_)
          refine lv_dload hx hb dX7_soonest_53 (hL.at 7 rfl) ?_
          refine k_dst hx hb hL (i := 4) (by decide) dX7_soonest_55 (fun ls hL => ?_)
          refine k_iinc hx hb hL (i := 6) rfl (by decide) dX7_soonest_57 (fun ls hL => ?_)
          refine lv_goto (tgt := 14) hx hb dX7_soonest_60 (by decide) ?_
          rw [show nI j + Int32.ofInt 1 = nI (j + 1) from nI_1 j] at hL
          exact ih14 (j + 1) _ _ (by omega) (by omega) (by rw [← hl, show mH M - j = (mH M - (j + 1)) + 1 by omega]; exact (hB _).symm) _ _ _ hW hS (hL.le (by repeat (first | exact kle_nil | refine kle_same ?_ | refine kle_drop ?_)))
        · try dsimp only at c39
          
          refine lv_dload hx hb dX7_soonest_42 (hL.at 7 rfl) ?_
          refine lv_dload hx hb dX7_soonest_44 (hL.at 4 rfl) ?_
          refine lv_dcmp hx hb dX7_soonest_46 ?_
          refine lv_if_ge (tgt := 57) hx hb dX7_soonest_47 (by decide) (fun c47 => ?_) (fun c47 => ?_)
          · rw [cg_ge] at c47
            have hB : ∀ d, fSn M i (d + 1) j bb ff = _ := fun d => fSn_n c39 c47
            refine k_iinc hx hb hL (i := 6) rfl (by decide) dX7_soonest_57 (fun ls hL => ?_)
            refine lv_goto (tgt := 14) hx hb dX7_soonest_60 (by decide) ?_
            rw [show nI j + Int32.ofInt 1 = nI (j + 1) from nI_1 j] at hL
            exact ih14 (j + 1) _ _ (by omega) (by omega) (by rw [← hl, show mH M - j = (mH M - (j + 1)) + 1 by omega]; exact (hB _).symm) _ _ _ hW hS (hL.le (by repeat (first | exact kle_nil | refine kle_same ?_ | refine kle_drop ?_)))
          · rw [cg_ge] at c47
            have hB : ∀ d, fSn M i (d + 1) j bb ff = _ := fun d => fSn_p (Or.inr (Decidable.not_not.mp c47))
            refine lv_iload hx hb dX7_soonest_50 (hL.at 6 rfl) ?_
            refine k_ist_n hx hb hL (i := 3) rfl (by decide) dX7_soonest_52 (fun ls hL => ?_)
            refine lv_dload hx hb dX7_soonest_53 (hL.at 7 rfl) ?_
            refine k_dst hx hb hL (i := 4) (by decide) dX7_soonest_55 (fun ls hL => ?_)
            refine k_iinc hx hb hL (i := 6) rfl (by decide) dX7_soonest_57 (fun ls hL => ?_)
            refine lv_goto (tgt := 14) hx hb dX7_soonest_60 (by decide) ?_
            rw [show nI j + Int32.ofInt 1 = nI (j + 1) from nI_1 j] at hL
            exact ih14 (j + 1) _ _ (by omega) (by omega) (by rw [← hl, show mH M - j = (mH M - (j + 1)) + 1 by omega]; exact (hB _).symm) _ _ _ hW hS (hL.le (by repeat (first | exact kle_nil | refine kle_same ?_ | refine kle_drop ?_)))
  exact loop14 (mH M + 1) 0 (-1) cD0 (by omega) (Nat.zero_le _) rfl _ _ _ hW hS hL

set_option maxHeartbeats 4000000 in
set_option maxRecDepth 100000 in
/-- TailorBench.soonest  -/
theorem c_qsoonestM {l : Launch} {D : va_G} {cy : Nat → ClassId} {sad : Nat → Nat} {em : Nat} {s0 : State} {a0 : Array Value} (G : kG kSTR l D cy sad em s0 a0) {ad : Nat → Nat} {ct : Nat → Option va_E} {M : tM} (hm : RepC cy ad ct M) (ho : okM M) {i : Nat} (hi : i < mO M) {nb : Nat} (hN : okN nb M) (hnb : nb ≤ 512) :
    KM l yX7_soonest [.code yX7_soonest prog_1_method_28_code 9 (some .int)] 1 60 0 0 [.ref (ad 1), .int (nI i)] D s0 ad ct (fun v ad' ct' => v = some (.int (fSn M i (mH M) 0 (-1) cD0)) ∧ ad' = ad ∧ ct' = ct) := by
  refine KM.of G (by decide) (Nat.le_of_ble_eq_true rfl) (Nat.le_of_ble_eq_true rfl) ?_
  intro p e s m args below meth c ls Q hQ X hin hL hW hS
  obtain ⟨hx, hb, hr, hml, hown, hlocks, hts, hq, hK, hI⟩ := X
  have hbn := ho.1
  have hs1 := hm.1
  have ha5 := hm.2.1.2.2.2.1
  refine lv_aload_n hx hb dX7_soonest_0 rfl (hL.at 0 rfl) ?_
  refine lv_iload_n hx hb dX7_soonest_1 rfl (hL.at 1 rfl) ?_
  refine k_callV (q := (RX7, TX7, 15)) hx hb hml hown hts hK hI hS hW hL.1 (by first | assumption | exact up_s | (rw [up_n (by omega)]; first | assumption | exact up_s | (rw [up_n (by omega)]; first | assumption | exact up_s | (rw [up_n (by omega)]; first | assumption | exact up_s | (rw [up_n (by omega)]; first | assumption | exact up_s | (rw [up_n (by omega)]; first | assumption | exact up_s | (rw [up_n (by omega)]; first | assumption | exact up_s | (rw [up_n (by omega)]; first | assumption | exact up_s | (rw [up_n (by omega)]; first | assumption | exact up_s | (rw [up_n (by omega)]; first | assumption | exact up_s | (rw [up_n (by omega)]; first | assumption | exact up_s | (rw [up_n (by omega)]; first | assumption | exact up_s)))))))))))) rfl (c_orderAtM G hm ho (x := nI i) ⟨i, hi, rfl⟩) (m5 (gT_in q325 rfl) (gT_in q327 rfl) (gT_in q3 rfl) (gT_in q55 rfl) (gT_in q328 rfl)) rfl (show kpar yX7_orderAt 1 from ⟨by decide, by decide, by decide +kernel⟩) ⟨by decide, by decide⟩ (by show _ ≤ (0 : Nat); omega) (by show _ ≤ (0 : Nat); omega) rfl (by decide) dX7_soonest_2 (fun v ad2 ct2 H locs hp hW hS => ?_)
  obtain ⟨z9, hz9, hzj, rfl, h1, h2⟩ := hp
  obtain rfl : i = z9 := (nI_eq (by omega) (by omega)).mp hzj
  rw [h1, h2] at hW
  refine k_ast_n hx hb hL (i := 2) rfl (by decide) dX7_soonest_5 (fun ls hL => ?_)
  refine lv_iconst (v := (-1)) hx hb dX7_soonest_6 (by decide) ?_
  refine k_ist_n hx hb hL (i := 3) rfl (by decide) dX7_soonest_7 (fun ls hL => ?_)
  refine lv_dconst0 hx hb dX7_soonest_8 ?_
  refine k_dst hx hb hL (i := 4) (by decide) dX7_soonest_9 (fun ls hL => ?_)
  refine lv_iconst (v := 0) hx hb dX7_soonest_11 (by decide) ?_
  refine k_ist hx hb hL (i := 6) (by decide) dX7_soonest_12 (fun ls hL => ?_)
  have loop14 : ∀ (nf : Nat) (j : Nat) (bb : Int32) (ff : UInt64), mH M - j < nf → j ≤ mH M → fSn M i (mH M - j) j bb ff = fSn M i (mH M) 0 (-1) cD0 → ∀ (H : Heap) (locs : List Loc) (ls : Array Slot), kW D s0.heap.size ad ct H → va_S (kA s0) s.heap H locs → lvP ls 9 [some (.ref (ad 1)), some (.int (nI i)), some (.ref (ad (64 + i))), some (.int bb), some (.double ff), none, some (.int (nI j)), none, none] → W p l e (krm 1 60 0 0) s m args below meth c H locs 0 0 Q (F0 m 14 ls []) := by
    intro nf
    induction nf with
    | zero => intro j bb ff hms14; exact absurd hms14 (Nat.not_lt_zero _)
    | succ nf ih14 =>
      intro j bb ff hms14 hj hl H locs ls hW hS hL
      refine lv_iload hx hb dX7_soonest_14 (hL.at 6 rfl) ?_
      refine lv_aload_n hx hb dX7_soonest_16 rfl (hL.at 0 rfl) ?_
      refine k_get (ci := 9) (C := RX7) (T := TX7) (N := 15) hx hb hts w_RX7 hown hK hW (by first | assumption | exact up_s | (rw [up_n (by omega)]; first | assumption | exact up_s | (rw [up_n (by omega)]; first | assumption | exact up_s | (rw [up_n (by omega)]; first | assumption | exact up_s | (rw [up_n (by omega)]; first | assumption | exact up_s | (rw [up_n (by omega)]; first | assumption | exact up_s | (rw [up_n (by omega)]; first | assumption | exact up_s | (rw [up_n (by omega)]; first | assumption | exact up_s | (rw [up_n (by omega)]; first | assumption | exact up_s | (rw [up_n (by omega)]; first | assumption | exact up_s | (rw [up_n (by omega)]; first | assumption | exact up_s | (rw [up_n (by omega)]; first | assumption | exact up_s)))))))))))) rfl 9 (by decide) (hq _ q158 rfl) (fun _ h9 => h9) (by rfl) dX7_soonest_17 ?_
      refine lv_icmp_ge (tgt := 63) hx hb dX7_soonest_20 (by decide) (fun c20 => ?_) (fun c20 => ?_)
      · try dsimp only at c20
        have ej : j = mH M := by have := (nI_leI (by omega) (by omega)).mp c20; omega
        refine lv_iload_n hx hb dX7_soonest_63 rfl (hL.at 3 rfl) ?_
        rw [hQ]
        exact k_iret hx hb hr hlocks hW hS (by omega) (by omega) dX7_soonest_64 (⟨by rw [← hl, ej, Nat.sub_self]; rfl, rfl, rfl⟩)
      · try dsimp only at c20
        have hlt : j < mH M := by
          rcases Nat.lt_or_ge j (mH M) with q | q
          · exact q
          · exact absurd (nI_le q (by omega)) c20
        refine lv_aload_n hx hb dX7_soonest_23 rfl (hL.at 0 rfl) ?_
        refine lv_aload_n hx hb dX7_soonest_24 rfl (hL.at 2 rfl) ?_
        refine lv_aload_n hx hb dX7_soonest_25 rfl (hL.at 0 rfl) ?_
        refine k_get (ci := 9) (C := RX7) (T := TX7) (N := 15) hx hb hts w_RX7 hown hK hW (by first | assumption | exact up_s | (rw [up_n (by omega)]; first | assumption | exact up_s | (rw [up_n (by omega)]; first | assumption | exact up_s | (rw [up_n (by omega)]; first | assumption | exact up_s | (rw [up_n (by omega)]; first | assumption | exact up_s | (rw [up_n (by omega)]; first | assumption | exact up_s | (rw [up_n (by omega)]; first | assumption | exact up_s | (rw [up_n (by omega)]; first | assumption | exact up_s | (rw [up_n (by omega)]; first | assumption | exact up_s | (rw [up_n (by omega)]; first | assumption | exact up_s | (rw [up_n (by omega)]; first | assumption | exact up_s | (rw [up_n (by omega)]; first | assumption | exact up_s)))))))))))) rfl 3 (by decide) (hq _ q152 rfl) (fun _ h9 => h9) (by rfl) dX7_soonest_26 ?_
        refine lv_iload hx hb dX7_soonest_29 (hL.at 6 rfl) ?_
        refine k_aald hx hb hK hW 7 (by first | assumption | exact up_s | (rw [up_n (by omega)]; first | assumption | exact up_s | (rw [up_n (by omega)]; first | assumption | exact up_s | (rw [up_n (by omega)]; first | assumption | exact up_s | (rw [up_n (by omega)]; first | assumption | exact up_s | (rw [up_n (by omega)]; first | assumption | exact up_s | (rw [up_n (by omega)]; first | assumption | exact up_s | (rw [up_n (by omega)]; first | assumption | exact up_s | (rw [up_n (by omega)]; first | assumption | exact up_s | (rw [up_n (by omega)]; first | assumption | exact up_s | (rw [up_n (by omega)]; first | assumption | exact up_s | (rw [up_n (by omega)]; first | assumption | exact up_s)))))))))))) rfl j (by omega) (by omega) rfl (kqs_at hlt) dX7_soonest_31 ?_
        refine k_callV (q := (RX7, TX7, 15)) hx hb hml hown hts hK hI hS hW hL.1 (by first | assumption | exact up_s | (rw [up_n (by omega)]; first | assumption | exact up_s | (rw [up_n (by omega)]; first | assumption | exact up_s | (rw [up_n (by omega)]; first | assumption | exact up_s | (rw [up_n (by omega)]; first | assumption | exact up_s | (rw [up_n (by omega)]; first | assumption | exact up_s | (rw [up_n (by omega)]; first | assumption | exact up_s | (rw [up_n (by omega)]; first | assumption | exact up_s | (rw [up_n (by omega)]; first | assumption | exact up_s | (rw [up_n (by omega)]; first | assumption | exact up_s | (rw [up_n (by omega)]; first | assumption | exact up_s | (rw [up_n (by omega)]; first | assumption | exact up_s)))))))))))) rfl (c_endOf G hm ho hi hlt (okEndM ho hN hnb hi hlt)) (m5 (gT_in q408 rfl) (gT_in q410 rfl) (gT_in q16 rfl) (gT_in q55 rfl) (gT_in q411 rfl)) rfl (show kpar yX7_endOfSewing 2 from ⟨by decide, by decide, by decide +kernel⟩) ⟨by decide, by decide⟩ (by show _ ≤ (0 : Nat); omega) (by show _ ≤ (0 : Nat); omega) rfl (by decide) dX7_soonest_32 (fun v ad32 ct32 H locs hp hW hS => ?_)
        obtain ⟨rfl, h1, h2⟩ := hp
        rw [h1, h2] at hW
        refine k_dst hx hb hL (i := 7) (by decide) dX7_soonest_35 (fun ls hL => ?_)
        refine lv_iload_n hx hb dX7_soonest_37 rfl (hL.at 3 rfl) ?_
        refine lv_iconst (v := (-1)) hx hb dX7_soonest_38 (by decide) ?_
        refine lv_icmp_eq (tgt := 50) hx hb dX7_soonest_39 (by decide) (fun c39 => ?_) (fun c39 => ?_)
        · try dsimp only at c39
          have hB : ∀ d, fSn M i (d + 1) j bb ff = _ := fun d => fSn_p (Or.inl c39)
          refine lv_iload hx hb dX7_soonest_50 (hL.at 6 rfl) ?_
          refine k_ist_n hx hb hL (i := 3) rfl (by decide) dX7_soonest_52 (fun ls hL => ?_)
          refine lv_dload hx hb dX7_soonest_53 (hL.at 7 rfl) ?_
          refine k_dst hx hb hL (i := 4) (by decide) dX7_soonest_55 (fun ls hL => ?_)
          refine k_iinc hx hb hL (i := 6) rfl (by decide) dX7_soonest_57 (fun ls hL => ?_)
          refine lv_goto (tgt := 14) hx hb dX7_soonest_60 (by decide) ?_
          rw [show nI j + Int32.ofInt 1 = nI (j + 1) from nI_1 j] at hL
          exact ih14 (j + 1) _ _ (by omega) (by omega) (by rw [← hl, show mH M - j = (mH M - (j + 1)) + 1 by omega]; exact (hB _).symm) _ _ _ hW hS (hL.le (by repeat (first | exact kle_nil | refine kle_same ?_ | refine kle_drop ?_)))
        · try dsimp only at c39
          
          refine lv_dload hx hb dX7_soonest_42 (hL.at 7 rfl) ?_
          refine lv_dload hx hb dX7_soonest_44 (hL.at 4 rfl) ?_
          refine lv_dcmp hx hb dX7_soonest_46 ?_
          refine lv_if_ge (tgt := 57) hx hb dX7_soonest_47 (by decide) (fun c47 => ?_) (fun c47 => ?_)
          · rw [cg_ge] at c47
            have hB : ∀ d, fSn M i (d + 1) j bb ff = _ := fun d => fSn_n c39 c47
            refine k_iinc hx hb hL (i := 6) rfl (by decide) dX7_soonest_57 (fun ls hL => ?_)
            refine lv_goto (tgt := 14) hx hb dX7_soonest_60 (by decide) ?_
            rw [show nI j + Int32.ofInt 1 = nI (j + 1) from nI_1 j] at hL
            exact ih14 (j + 1) _ _ (by omega) (by omega) (by rw [← hl, show mH M - j = (mH M - (j + 1)) + 1 by omega]; exact (hB _).symm) _ _ _ hW hS (hL.le (by repeat (first | exact kle_nil | refine kle_same ?_ | refine kle_drop ?_)))
          · rw [cg_ge] at c47
            have hB : ∀ d, fSn M i (d + 1) j bb ff = _ := fun d => fSn_p (Or.inr (Decidable.not_not.mp c47))
            refine lv_iload hx hb dX7_soonest_50 (hL.at 6 rfl) ?_
            refine k_ist_n hx hb hL (i := 3) rfl (by decide) dX7_soonest_52 (fun ls hL => ?_)
            refine lv_dload hx hb dX7_soonest_53 (hL.at 7 rfl) ?_
            refine k_dst hx hb hL (i := 4) (by decide) dX7_soonest_55 (fun ls hL => ?_)
            refine k_iinc hx hb hL (i := 6) rfl (by decide) dX7_soonest_57 (fun ls hL => ?_)
            refine lv_goto (tgt := 14) hx hb dX7_soonest_60 (by decide) ?_
            rw [show nI j + Int32.ofInt 1 = nI (j + 1) from nI_1 j] at hL
            exact ih14 (j + 1) _ _ (by omega) (by omega) (by rw [← hl, show mH M - j = (mH M - (j + 1)) + 1 by omega]; exact (hB _).symm) _ _ _ hW hS (hL.le (by repeat (first | exact kle_nil | refine kle_same ?_ | refine kle_drop ?_)))
  exact loop14 (mH M + 1) 0 (-1) cD0 (by omega) (Nat.zero_le _) rfl _ _ _ hW hS hL

set_option maxHeartbeats 4000000 in
set_option maxRecDepth 100000 in
/-- TailorBench.best  -/
theorem c_qbest {l : Launch} {D : va_G} {cy : Nat → ClassId} {sad : Nat → Nat} {em : Nat} {s0 : State} {a0 : Array Value} (G : kG kSTR l D cy sad em s0 a0) {ad : Nat → Nat} {ct : Nat → Option va_E} {M : tM} (hm : RepC cy ad ct M) (ho : okM M) (x : Int32) {tb : tTb} {fl fw fh fr : Nat → UInt64} (hT : RepT cy ad ct tb fl fw fh fr) {nb : Nat} (hN : okN nb M) :
    KX l yX7_best [.code yX7_best prog_1_method_26_code 10 (some .int)] 7 120 2 12 [.ref (ad 1), .int x] D s0 ad ct (fun v ad' ct' => ∃ i, i < mO M ∧ x = nI i ∧ v = some (.int (fBs M i (mC M) 0 (-1) cD0)) ∧ ad' = ad ∧ kOut ct ct' ∧ ∃ (tb : tTb) (fl fw fh fr : Nat → UInt64), RepT cy ad ct' tb fl fw fh fr) (fun E => E = eIdx ∧ ¬ kIn x (mO M)) := by
  refine KX.of G (by decide) (Nat.le_of_ble_eq_true rfl) (Nat.le_of_ble_eq_true rfl) ?_
  intro p e s m args below meth c ls Q hQ X hin hL hW hS
  obtain ⟨hx, hb, hr, hml, hown, hlocks, hts, hq, hK, hI⟩ := X
  have hbn := ho.1
  have hs1 := hm.1
  have ha2 := hm.2.1.1
  refine lv_aload_n hx hb dX7_best_0 rfl (hL.at 0 rfl) ?_
  refine lv_iload_n hx hb dX7_best_1 rfl (hL.at 1 rfl) ?_
  refine k_callVX (q := (RX7, TX7, 15)) hx hb hml hown hts hK hI hS hW hL.1 (by first | assumption | exact up_s | (rw [up_n (by omega)]; first | assumption | exact up_s | (rw [up_n (by omega)]; first | assumption | exact up_s | (rw [up_n (by omega)]; first | assumption | exact up_s | (rw [up_n (by omega)]; first | assumption | exact up_s | (rw [up_n (by omega)]; first | assumption | exact up_s | (rw [up_n (by omega)]; first | assumption | exact up_s | (rw [up_n (by omega)]; first | assumption | exact up_s | (rw [up_n (by omega)]; first | assumption | exact up_s | (rw [up_n (by omega)]; first | assumption | exact up_s | (rw [up_n (by omega)]; first | assumption | exact up_s | (rw [up_n (by omega)]; first | assumption | exact up_s)))))))))))) rfl (c_orderAt G hm ho x) (m5 (gT_in q325 rfl) (gT_in q327 rfl) (gT_in q3 rfl) (gT_in q55 rfl) (gT_in q328 rfl)) rfl (show kpar yX7_orderAt 1 from ⟨by decide, by decide, by decide +kernel⟩) ⟨by decide, by decide⟩ (by show _ ≤ (2 : Nat); omega) (by show _ ≤ (12 : Nat); omega) rfl (by decide) dX7_best_2 (fun E ce q9 H locs hp hW hS hce hcv hcl => ?_) (fun v ad2 ct2 H locs hp hW hS => ?_)
  · rw [hQ]; exact k_out hown hlocks hin hW hS hce hcv hcl (by omega) (by omega) (hp)
  obtain ⟨i, hi, hxi, rfl, h1, h2⟩ := hp
  rw [h1, h2] at hW
  refine k_ast_n hx hb hL (i := 2) rfl (by decide) dX7_best_5 (fun ls hL => ?_)
  refine lv_iconst (v := (-1)) hx hb dX7_best_6 (by decide) ?_
  refine k_ist_n hx hb hL (i := 3) rfl (by decide) dX7_best_7 (fun ls hL => ?_)
  refine lv_dconst0 hx hb dX7_best_8 ?_
  refine k_dst hx hb hL (i := 4) (by decide) dX7_best_9 (fun ls hL => ?_)
  refine lv_iconst (v := 0) hx hb dX7_best_11 (by decide) ?_
  refine k_ist hx hb hL (i := 6) (by decide) dX7_best_12 (fun ls hL => ?_)
  have loop14 : ∀ (nf : Nat) (j : Nat) (bb : Int32) (ff : UInt64) (ct1 : Nat → Option va_E) (tb1 : tTb) (fl1 fw1 fh1 fr1 : Nat → UInt64), mC M - j < nf → j ≤ mC M → fBs M i (mC M - j) j bb ff = fBs M i (mC M) 0 (-1) cD0 → kOut ct ct1 → RepT cy ad ct1 tb1 fl1 fw1 fh1 fr1 → ∀ (H : Heap) (locs : List Loc) (ls : Array Slot), kW D s0.heap.size ad ct1 H → va_S (kA s0) s.heap H locs → lvP ls 10 [some (.ref (ad 1)), some (.int x), some (.ref (ad (64 + i))), some (.int bb), some (.double ff), none, some (.int (nI j)), none, none, none] → W p l e (krm 7 120 2 12) s m args below meth c H locs 1 6 Q (F0 m 14 ls []) := by
    intro nf
    induction nf with
    | zero => intro j bb ff ct1 tb1 fl1 fw1 fh1 fr1 hms14; exact absurd hms14 (Nat.not_lt_zero _)
    | succ nf ih14 =>
      intro j bb ff ct1 tb1 fl1 fw1 fh1 fr1 hms14 hj hl hko hT1 H locs ls hW hS hL
      have hm1 := hm.out ho hko
      have hs1 := hm1.1
      have ha2 := hm1.2.1.1
      obtain ⟨t7, t8, t9, t10, t11⟩ := id hT1
      refine lv_iload hx hb dX7_best_14 (hL.at 6 rfl) ?_
      refine lv_aload_n hx hb dX7_best_16 rfl (hL.at 0 rfl) ?_
      refine k_get (ci := 9) (C := RX7) (T := TX7) (N := 15) hx hb hts w_RX7 hown hK hW (by first | assumption | exact up_s | (rw [up_n (by omega)]; first | assumption | exact up_s | (rw [up_n (by omega)]; first | assumption | exact up_s | (rw [up_n (by omega)]; first | assumption | exact up_s | (rw [up_n (by omega)]; first | assumption | exact up_s | (rw [up_n (by omega)]; first | assumption | exact up_s | (rw [up_n (by omega)]; first | assumption | exact up_s | (rw [up_n (by omega)]; first | assumption | exact up_s | (rw [up_n (by omega)]; first | assumption | exact up_s | (rw [up_n (by omega)]; first | assumption | exact up_s | (rw [up_n (by omega)]; first | assumption | exact up_s | (rw [up_n (by omega)]; first | assumption | exact up_s)))))))))))) rfl 6 (by decide) (hq _ q155 rfl) (fun _ h9 => h9) (by rfl) dX7_best_17 ?_
      refine lv_icmp_ge (tgt := 104) hx hb dX7_best_20 (by decide) (fun c20 => ?_) (fun c20 => ?_)
      · try dsimp only at c20
        have ej : j = mC M := by have := (nI_leI (by omega) (by omega)).mp c20; omega
        refine lv_iload_n hx hb dX7_best_104 rfl (hL.at 3 rfl) ?_
        rw [hQ]
        exact vx_ret (k_iret hx hb hr hlocks hW hS (by omega) (by omega) dX7_best_105 (⟨i, hi, hxi, by rw [← hl, ej, Nat.sub_self]; rfl, rfl, hko, _, _, _, _, _, hT1⟩))
      · try dsimp only at c20
        have hlt : j < mC M := by
          rcases Nat.lt_or_ge j (mC M) with q | q
          · exact q
          · exact absurd (nI_le q (by omega)) c20
        refine lv_aload_n hx hb dX7_best_23 rfl (hL.at 0 rfl) ?_
        refine k_get (ci := 9) (C := RX7) (T := TX7) (N := 15) hx hb hts w_RX7 hown hK hW (by first | assumption | exact up_s | (rw [up_n (by omega)]; first | assumption | exact up_s | (rw [up_n (by omega)]; first | assumption | exact up_s | (rw [up_n (by omega)]; first | assumption | exact up_s | (rw [up_n (by omega)]; first | assumption | exact up_s | (rw [up_n (by omega)]; first | assumption | exact up_s | (rw [up_n (by omega)]; first | assumption | exact up_s | (rw [up_n (by omega)]; first | assumption | exact up_s | (rw [up_n (by omega)]; first | assumption | exact up_s | (rw [up_n (by omega)]; first | assumption | exact up_s | (rw [up_n (by omega)]; first | assumption | exact up_s | (rw [up_n (by omega)]; first | assumption | exact up_s)))))))))))) rfl 0 (by decide) (hq _ q149 rfl) (fun _ h9 => h9) (by rfl) dX7_best_24 ?_
        refine lv_iload hx hb dX7_best_27 (hL.at 6 rfl) ?_
        refine k_aald hx hb hK hW 4 (by first | assumption | exact up_s | (rw [up_n (by omega)]; first | assumption | exact up_s | (rw [up_n (by omega)]; first | assumption | exact up_s | (rw [up_n (by omega)]; first | assumption | exact up_s | (rw [up_n (by omega)]; first | assumption | exact up_s | (rw [up_n (by omega)]; first | assumption | exact up_s | (rw [up_n (by omega)]; first | assumption | exact up_s | (rw [up_n (by omega)]; first | assumption | exact up_s | (rw [up_n (by omega)]; first | assumption | exact up_s | (rw [up_n (by omega)]; first | assumption | exact up_s | (rw [up_n (by omega)]; first | assumption | exact up_s | (rw [up_n (by omega)]; first | assumption | exact up_s)))))))))))) rfl j (by omega) (by omega) rfl (kqs_at hlt) dX7_best_29 ?_
        refine k_ast hx hb hL (i := 7) (by decide) dX7_best_30 (fun ls hL => ?_)
        refine lv_aload_n hx hb dX7_best_32 rfl (hL.at 0 rfl) ?_
        refine k_get (ci := 9) (C := RX7) (T := TX7) (N := 15) hx hb hts w_RX7 hown hK hW (by first | assumption | exact up_s | (rw [up_n (by omega)]; first | assumption | exact up_s | (rw [up_n (by omega)]; first | assumption | exact up_s | (rw [up_n (by omega)]; first | assumption | exact up_s | (rw [up_n (by omega)]; first | assumption | exact up_s | (rw [up_n (by omega)]; first | assumption | exact up_s | (rw [up_n (by omega)]; first | assumption | exact up_s | (rw [up_n (by omega)]; first | assumption | exact up_s | (rw [up_n (by omega)]; first | assumption | exact up_s | (rw [up_n (by omega)]; first | assumption | exact up_s | (rw [up_n (by omega)]; first | assumption | exact up_s | (rw [up_n (by omega)]; first | assumption | exact up_s)))))))))))) rfl 5 (by decide) (hq _ q154 rfl) (fun _ h9 => h9) (by rfl) dX7_best_33 ?_
        refine lv_aload_n hx hb dX7_best_36 rfl (hL.at 2 rfl) ?_
        refine lv_null hx hb dX7_best_37 ?_
        refine lv_aload hx hb dX7_best_38 (hL.at 7 rfl) ?_
        refine k_callVN (q := (RX6, TX6, 11)) (host := "TailorBench") hx hb hml hown hts hK hI hS hW hL.1 (by first | assumption | exact up_s | (rw [up_n (by omega)]; first | assumption | exact up_s | (rw [up_n (by omega)]; first | assumption | exact up_s | (rw [up_n (by omega)]; first | assumption | exact up_s | (rw [up_n (by omega)]; first | assumption | exact up_s | (rw [up_n (by omega)]; first | assumption | exact up_s | (rw [up_n (by omega)]; first | assumption | exact up_s | (rw [up_n (by omega)]; first | assumption | exact up_s | (rw [up_n (by omega)]; first | assumption | exact up_s | (rw [up_n (by omega)]; first | assumption | exact up_s | (rw [up_n (by omega)]; first | assumption | exact up_s | (rw [up_n (by omega)]; first | assumption | exact up_s)))))))))))) rfl (c_spread1 G hm1 ho hi hlt hT1 hN) (gT_in q365 rfl) (hq _ q362 rfl) (hq _ q56 rfl) (hq _ q364 rfl) (hq _ q7 rfl) (show kpar yX6_spread 3 from ⟨by decide, by decide, by decide +kernel⟩) ⟨by decide, by decide⟩ (by show _ ≤ (2 : Nat); omega) (by show _ ≤ (12 : Nat); omega) rfl (by decide) dX7_best_40 (fun v ad40 ct40 H locs hp hW hS => ?_)
        obtain ⟨h1, hk40, ha40⟩ := hp
        rw [h1] at hW
        have hko40 := hko.tr hk40
        have hm40 := hm.out ho hko40
        have hs40 := hm40.1
        have hcl40 := hm40.2.2.1 j hlt
        rcases ha40 with ⟨r40, fl40, fw40, fh40, fr40, e40, rfl, hT40⟩ | ⟨e40, rfl, tb40, fl40, fw40, fh40, fr40, hT40⟩
        · obtain ⟨t7, t8, t9, t10, t11⟩ := id hT40
          refine lv_if_eq (tgt := 98) hx hb dX7_best_43 (by decide) (fun c43 => ?_) (fun c43 => ?_)
          · try dsimp only at c43
            exact absurd c43 (by decide)
          · try dsimp only at c43
            refine lv_aload hx hb dX7_best_46 (hL.at 7 rfl) ?_
            refine k_getN (ci := 2) (C := RX0) (T := TX0) (N := 6) hx hb hts w_RX0 hown hK hW (by first | assumption | exact up_s | (rw [up_n (by omega)]; first | assumption | exact up_s | (rw [up_n (by omega)]; first | assumption | exact up_s | (rw [up_n (by omega)]; first | assumption | exact up_s | (rw [up_n (by omega)]; first | assumption | exact up_s | (rw [up_n (by omega)]; first | assumption | exact up_s | (rw [up_n (by omega)]; first | assumption | exact up_s | (rw [up_n (by omega)]; first | assumption | exact up_s | (rw [up_n (by omega)]; first | assumption | exact up_s | (rw [up_n (by omega)]; first | assumption | exact up_s | (rw [up_n (by omega)]; first | assumption | exact up_s | (rw [up_n (by omega)]; first | assumption | exact up_s)))))))))))) rfl 4 (by decide) (hq _ q482 rfl) (fun _ h9 => h9) (by rfl) dX7_best_48 ?_
            refine lv_aload_n hx hb dX7_best_51 rfl (hL.at 0 rfl) ?_
            refine k_get (ci := 9) (C := RX7) (T := TX7) (N := 15) hx hb hts w_RX7 hown hK hW (by first | assumption | exact up_s | (rw [up_n (by omega)]; first | assumption | exact up_s | (rw [up_n (by omega)]; first | assumption | exact up_s | (rw [up_n (by omega)]; first | assumption | exact up_s | (rw [up_n (by omega)]; first | assumption | exact up_s | (rw [up_n (by omega)]; first | assumption | exact up_s | (rw [up_n (by omega)]; first | assumption | exact up_s | (rw [up_n (by omega)]; first | assumption | exact up_s | (rw [up_n (by omega)]; first | assumption | exact up_s | (rw [up_n (by omega)]; first | assumption | exact up_s | (rw [up_n (by omega)]; first | assumption | exact up_s | (rw [up_n (by omega)]; first | assumption | exact up_s)))))))))))) rfl 5 (by decide) (hq _ q154 rfl) (fun _ h9 => h9) (by rfl) dX7_best_52 ?_
            refine k_getN (ci := 8) (C := RX6) (T := TX6) (N := 11) hx hb hts w_RX6 hown hK hW (by first | assumption | exact up_s | (rw [up_n (by omega)]; first | assumption | exact up_s | (rw [up_n (by omega)]; first | assumption | exact up_s | (rw [up_n (by omega)]; first | assumption | exact up_s | (rw [up_n (by omega)]; first | assumption | exact up_s | (rw [up_n (by omega)]; first | assumption | exact up_s | (rw [up_n (by omega)]; first | assumption | exact up_s | (rw [up_n (by omega)]; first | assumption | exact up_s | (rw [up_n (by omega)]; first | assumption | exact up_s | (rw [up_n (by omega)]; first | assumption | exact up_s | (rw [up_n (by omega)]; first | assumption | exact up_s | (rw [up_n (by omega)]; first | assumption | exact up_s)))))))))))) rfl 7 (by decide) (hq _ q121 rfl) (fun _ h9 => h9) (by rfl) dX7_best_55 ?_
            refine lv_dcmp hx hb dX7_best_58 ?_
            refine lv_if_lt (tgt := 98) hx hb dX7_best_59 (by decide) (fun c59 => ?_) (fun c59 => ?_)
            · rw [cl_lt] at c59
              have hB : ∀ d, fBs M i (d + 1) j bb ff = fBs M i d (j + 1) bb ff := fun d => fBs_n (fBt_n e40 (fun z => z.1 c59))
              refine k_iinc hx hb hL (i := 6) rfl (by decide) dX7_best_98 (fun ls hL => ?_)
              refine lv_goto (tgt := 14) hx hb dX7_best_101 (by decide) ?_
              rw [show nI j + Int32.ofInt 1 = nI (j + 1) from nI_1 j] at hL
              exact ih14 (j + 1) _ _ _ _ _ _ _ _ (by omega) (by omega) (by rw [← hl, show mC M - j = (mC M - (j + 1)) + 1 by omega]; exact (hB _).symm) hko40 hT40 _ _ _ hW hS (hL.le (by repeat (first | exact kle_nil | refine kle_same ?_ | refine kle_drop ?_)))
            · rw [cl_lt] at c59
              
              refine lv_aload hx hb dX7_best_62 (hL.at 7 rfl) ?_
              refine k_getN (ci := 2) (C := RX0) (T := TX0) (N := 6) hx hb hts w_RX0 hown hK hW (by first | assumption | exact up_s | (rw [up_n (by omega)]; first | assumption | exact up_s | (rw [up_n (by omega)]; first | assumption | exact up_s | (rw [up_n (by omega)]; first | assumption | exact up_s | (rw [up_n (by omega)]; first | assumption | exact up_s | (rw [up_n (by omega)]; first | assumption | exact up_s | (rw [up_n (by omega)]; first | assumption | exact up_s | (rw [up_n (by omega)]; first | assumption | exact up_s | (rw [up_n (by omega)]; first | assumption | exact up_s | (rw [up_n (by omega)]; first | assumption | exact up_s | (rw [up_n (by omega)]; first | assumption | exact up_s | (rw [up_n (by omega)]; first | assumption | exact up_s)))))))))))) rfl 2 (by decide) (hq _ q477 rfl) (fun _ h9 => h9) (by rfl) dX7_best_64 ?_
              refine lv_i2d hx hb dX7_best_67 ?_
              refine lv_aload_n hx hb dX7_best_68 rfl (hL.at 0 rfl) ?_
              refine k_get (ci := 9) (C := RX7) (T := TX7) (N := 15) hx hb hts w_RX7 hown hK hW (by first | assumption | exact up_s | (rw [up_n (by omega)]; first | assumption | exact up_s | (rw [up_n (by omega)]; first | assumption | exact up_s | (rw [up_n (by omega)]; first | assumption | exact up_s | (rw [up_n (by omega)]; first | assumption | exact up_s | (rw [up_n (by omega)]; first | assumption | exact up_s | (rw [up_n (by omega)]; first | assumption | exact up_s | (rw [up_n (by omega)]; first | assumption | exact up_s | (rw [up_n (by omega)]; first | assumption | exact up_s | (rw [up_n (by omega)]; first | assumption | exact up_s | (rw [up_n (by omega)]; first | assumption | exact up_s | (rw [up_n (by omega)]; first | assumption | exact up_s)))))))))))) rfl 5 (by decide) (hq _ q154 rfl) (fun _ h9 => h9) (by rfl) dX7_best_69 ?_
              refine k_getN (ci := 8) (C := RX6) (T := TX6) (N := 11) hx hb hts w_RX6 hown hK hW (by first | assumption | exact up_s | (rw [up_n (by omega)]; first | assumption | exact up_s | (rw [up_n (by omega)]; first | assumption | exact up_s | (rw [up_n (by omega)]; first | assumption | exact up_s | (rw [up_n (by omega)]; first | assumption | exact up_s | (rw [up_n (by omega)]; first | assumption | exact up_s | (rw [up_n (by omega)]; first | assumption | exact up_s | (rw [up_n (by omega)]; first | assumption | exact up_s | (rw [up_n (by omega)]; first | assumption | exact up_s | (rw [up_n (by omega)]; first | assumption | exact up_s | (rw [up_n (by omega)]; first | assumption | exact up_s | (rw [up_n (by omega)]; first | assumption | exact up_s)))))))))))) rfl 7 (by decide) (hq _ q121 rfl) (fun _ h9 => h9) (by rfl) dX7_best_72 ?_
              refine lv_dmul hx hb dX7_best_75 (okWorth ho hN hi hlt e40) ?_
              refine k_dst hx hb hL (i := 8) (by decide) dX7_best_76 (fun ls hL => ?_)
              refine lv_iload_n hx hb dX7_best_78 rfl (hL.at 3 rfl) ?_
              refine lv_iconst (v := (-1)) hx hb dX7_best_79 (by decide) ?_
              refine lv_icmp_eq (tgt := 91) hx hb dX7_best_80 (by decide) (fun c80 => ?_) (fun c80 => ?_)
              · try dsimp only at c80
                have hB : ∀ d, fBs M i (d + 1) j bb ff = fBs M i d (j + 1) (nI j) (fWorth M j r40) := fun d => fBs_p (fBt_p e40 c59 (Or.inl c80))
                refine lv_iload hx hb dX7_best_91 (hL.at 6 rfl) ?_
                refine k_ist_n hx hb hL (i := 3) rfl (by decide) dX7_best_93 (fun ls hL => ?_)
                refine lv_dload hx hb dX7_best_94 (hL.at 8 rfl) ?_
                refine k_dst hx hb hL (i := 4) (by decide) dX7_best_96 (fun ls hL => ?_)
                refine k_iinc hx hb hL (i := 6) rfl (by decide) dX7_best_98 (fun ls hL => ?_)
                refine lv_goto (tgt := 14) hx hb dX7_best_101 (by decide) ?_
                rw [show nI j + Int32.ofInt 1 = nI (j + 1) from nI_1 j] at hL
                exact ih14 (j + 1) _ _ _ _ _ _ _ _ (by omega) (by omega) (by rw [← hl, show mC M - j = (mC M - (j + 1)) + 1 by omega]; exact (hB _).symm) hko40 hT40 _ _ _ hW hS (hL.le (by repeat (first | exact kle_nil | refine kle_same ?_ | refine kle_drop ?_)))
              · try dsimp only at c80
                
                refine lv_dload hx hb dX7_best_83 (hL.at 8 rfl) ?_
                refine lv_dload hx hb dX7_best_85 (hL.at 4 rfl) ?_
                refine lv_dcmp hx hb dX7_best_87 ?_
                refine lv_if_ge (tgt := 98) hx hb dX7_best_88 (by decide) (fun c88 => ?_) (fun c88 => ?_)
                · rw [cg_ge] at c88
                  have hB : ∀ d, fBs M i (d + 1) j bb ff = fBs M i d (j + 1) bb ff := fun d => fBs_n (fBt_n e40 (fun z => z.2.elim c80 c88))
                  refine k_iinc hx hb hL (i := 6) rfl (by decide) dX7_best_98 (fun ls hL => ?_)
                  refine lv_goto (tgt := 14) hx hb dX7_best_101 (by decide) ?_
                  rw [show nI j + Int32.ofInt 1 = nI (j + 1) from nI_1 j] at hL
                  exact ih14 (j + 1) _ _ _ _ _ _ _ _ (by omega) (by omega) (by rw [← hl, show mC M - j = (mC M - (j + 1)) + 1 by omega]; exact (hB _).symm) hko40 hT40 _ _ _ hW hS (hL.le (by repeat (first | exact kle_nil | refine kle_same ?_ | refine kle_drop ?_)))
                · rw [cg_ge] at c88
                  have hB : ∀ d, fBs M i (d + 1) j bb ff = fBs M i d (j + 1) (nI j) (fWorth M j r40) := fun d => fBs_p (fBt_p e40 c59 (Or.inr (Decidable.not_not.mp c88)))
                  refine lv_iload hx hb dX7_best_91 (hL.at 6 rfl) ?_
                  refine k_ist_n hx hb hL (i := 3) rfl (by decide) dX7_best_93 (fun ls hL => ?_)
                  refine lv_dload hx hb dX7_best_94 (hL.at 8 rfl) ?_
                  refine k_dst hx hb hL (i := 4) (by decide) dX7_best_96 (fun ls hL => ?_)
                  refine k_iinc hx hb hL (i := 6) rfl (by decide) dX7_best_98 (fun ls hL => ?_)
                  refine lv_goto (tgt := 14) hx hb dX7_best_101 (by decide) ?_
                  rw [show nI j + Int32.ofInt 1 = nI (j + 1) from nI_1 j] at hL
                  exact ih14 (j + 1) _ _ _ _ _ _ _ _ (by omega) (by omega) (by rw [← hl, show mC M - j = (mC M - (j + 1)) + 1 by omega]; exact (hB _).symm) hko40 hT40 _ _ _ hW hS (hL.le (by repeat (first | exact kle_nil | refine kle_same ?_ | refine kle_drop ?_)))
        · have hB : ∀ d, fBs M i (d + 1) j bb ff = fBs M i d (j + 1) bb ff := fun d => fBs_n (fBt_0 e40)
          refine lv_if_eq (tgt := 98) hx hb dX7_best_43 (by decide) (fun c43 => ?_) (fun c43 => ?_)
          · try dsimp only at c43
            refine k_iinc hx hb hL (i := 6) rfl (by decide) dX7_best_98 (fun ls hL => ?_)
            refine lv_goto (tgt := 14) hx hb dX7_best_101 (by decide) ?_
            rw [show nI j + Int32.ofInt 1 = nI (j + 1) from nI_1 j] at hL
            exact ih14 (j + 1) _ _ _ _ _ _ _ _ (by omega) (by omega) (by rw [← hl, show mC M - j = (mC M - (j + 1)) + 1 by omega]; exact (hB _).symm) hko40 hT40 _ _ _ hW hS (hL.le (by repeat (first | exact kle_nil | refine kle_same ?_ | refine kle_drop ?_)))
          · try dsimp only at c43
            exact absurd c43 (by decide)
  exact loop14 (mC M + 1) 0 (-1) cD0 ct tb fl fw fh fr (by omega) (Nat.zero_le _) rfl kOut.rf hT _ _ _ hW hS hL

set_option maxHeartbeats 4000000 in
set_option maxRecDepth 100000 in
/-- TailorBench.best  -/
theorem c_qbestM {l : Launch} {D : va_G} {cy : Nat → ClassId} {sad : Nat → Nat} {em : Nat} {s0 : State} {a0 : Array Value} (G : kG kSTR l D cy sad em s0 a0) {ad : Nat → Nat} {ct : Nat → Option va_E} {M : tM} (hm : RepC cy ad ct M) (ho : okM M) {i : Nat} (hi : i < mO M) {tb : tTb} {fl fw fh fr : Nat → UInt64} (hT : RepT cy ad ct tb fl fw fh fr) {nb : Nat} (hN : okN nb M) :
    KM l yX7_best [.code yX7_best prog_1_method_26_code 10 (some .int)] 5 119 0 0 [.ref (ad 1), .int (nI i)] D s0 ad ct (fun v ad' ct' => v = some (.int (fBs M i (mC M) 0 (-1) cD0)) ∧ ad' = ad ∧ kOut ct ct' ∧ ∃ (tb : tTb) (fl fw fh fr : Nat → UInt64), RepT cy ad ct' tb fl fw fh fr) := by
  refine KM.of G (by decide) (Nat.le_of_ble_eq_true rfl) (Nat.le_of_ble_eq_true rfl) ?_
  intro p e s m args below meth c ls Q hQ X hin hL hW hS
  obtain ⟨hx, hb, hr, hml, hown, hlocks, hts, hq, hK, hI⟩ := X
  have hbn := ho.1
  have hs1 := hm.1
  have ha2 := hm.2.1.1
  refine lv_aload_n hx hb dX7_best_0 rfl (hL.at 0 rfl) ?_
  refine lv_iload_n hx hb dX7_best_1 rfl (hL.at 1 rfl) ?_
  refine k_callV (q := (RX7, TX7, 15)) hx hb hml hown hts hK hI hS hW hL.1 (by first | assumption | exact up_s | (rw [up_n (by omega)]; first | assumption | exact up_s | (rw [up_n (by omega)]; first | assumption | exact up_s | (rw [up_n (by omega)]; first | assumption | exact up_s | (rw [up_n (by omega)]; first | assumption | exact up_s | (rw [up_n (by omega)]; first | assumption | exact up_s | (rw [up_n (by omega)]; first | assumption | exact up_s | (rw [up_n (by omega)]; first | assumption | exact up_s | (rw [up_n (by omega)]; first | assumption | exact up_s | (rw [up_n (by omega)]; first | assumption | exact up_s | (rw [up_n (by omega)]; first | assumption | exact up_s | (rw [up_n (by omega)]; first | assumption | exact up_s)))))))))))) rfl (c_orderAtM G hm ho (x := nI i) ⟨i, hi, rfl⟩) (m5 (gT_in q325 rfl) (gT_in q327 rfl) (gT_in q3 rfl) (gT_in q55 rfl) (gT_in q328 rfl)) rfl (show kpar yX7_orderAt 1 from ⟨by decide, by decide, by decide +kernel⟩) ⟨by decide, by decide⟩ (by show _ ≤ (0 : Nat); omega) (by show _ ≤ (0 : Nat); omega) rfl (by decide) dX7_best_2 (fun v ad2 ct2 H locs hp hW hS => ?_)
  obtain ⟨z9, hz9, hzj, rfl, h1, h2⟩ := hp
  obtain rfl : i = z9 := (nI_eq (by omega) (by omega)).mp hzj
  rw [h1, h2] at hW
  refine k_ast_n hx hb hL (i := 2) rfl (by decide) dX7_best_5 (fun ls hL => ?_)
  refine lv_iconst (v := (-1)) hx hb dX7_best_6 (by decide) ?_
  refine k_ist_n hx hb hL (i := 3) rfl (by decide) dX7_best_7 (fun ls hL => ?_)
  refine lv_dconst0 hx hb dX7_best_8 ?_
  refine k_dst hx hb hL (i := 4) (by decide) dX7_best_9 (fun ls hL => ?_)
  refine lv_iconst (v := 0) hx hb dX7_best_11 (by decide) ?_
  refine k_ist hx hb hL (i := 6) (by decide) dX7_best_12 (fun ls hL => ?_)
  have loop14 : ∀ (nf : Nat) (j : Nat) (bb : Int32) (ff : UInt64) (ct1 : Nat → Option va_E) (tb1 : tTb) (fl1 fw1 fh1 fr1 : Nat → UInt64), mC M - j < nf → j ≤ mC M → fBs M i (mC M - j) j bb ff = fBs M i (mC M) 0 (-1) cD0 → kOut ct ct1 → RepT cy ad ct1 tb1 fl1 fw1 fh1 fr1 → ∀ (H : Heap) (locs : List Loc) (ls : Array Slot), kW D s0.heap.size ad ct1 H → va_S (kA s0) s.heap H locs → lvP ls 10 [some (.ref (ad 1)), some (.int (nI i)), some (.ref (ad (64 + i))), some (.int bb), some (.double ff), none, some (.int (nI j)), none, none, none] → W p l e (krm 5 119 0 0) s m args below meth c H locs 0 0 Q (F0 m 14 ls []) := by
    intro nf
    induction nf with
    | zero => intro j bb ff ct1 tb1 fl1 fw1 fh1 fr1 hms14; exact absurd hms14 (Nat.not_lt_zero _)
    | succ nf ih14 =>
      intro j bb ff ct1 tb1 fl1 fw1 fh1 fr1 hms14 hj hl hko hT1 H locs ls hW hS hL
      have hm1 := hm.out ho hko
      have hs1 := hm1.1
      have ha2 := hm1.2.1.1
      obtain ⟨t7, t8, t9, t10, t11⟩ := id hT1
      refine lv_iload hx hb dX7_best_14 (hL.at 6 rfl) ?_
      refine lv_aload_n hx hb dX7_best_16 rfl (hL.at 0 rfl) ?_
      refine k_get (ci := 9) (C := RX7) (T := TX7) (N := 15) hx hb hts w_RX7 hown hK hW (by first | assumption | exact up_s | (rw [up_n (by omega)]; first | assumption | exact up_s | (rw [up_n (by omega)]; first | assumption | exact up_s | (rw [up_n (by omega)]; first | assumption | exact up_s | (rw [up_n (by omega)]; first | assumption | exact up_s | (rw [up_n (by omega)]; first | assumption | exact up_s | (rw [up_n (by omega)]; first | assumption | exact up_s | (rw [up_n (by omega)]; first | assumption | exact up_s | (rw [up_n (by omega)]; first | assumption | exact up_s | (rw [up_n (by omega)]; first | assumption | exact up_s | (rw [up_n (by omega)]; first | assumption | exact up_s | (rw [up_n (by omega)]; first | assumption | exact up_s)))))))))))) rfl 6 (by decide) (hq _ q155 rfl) (fun _ h9 => h9) (by rfl) dX7_best_17 ?_
      refine lv_icmp_ge (tgt := 104) hx hb dX7_best_20 (by decide) (fun c20 => ?_) (fun c20 => ?_)
      · try dsimp only at c20
        have ej : j = mC M := by have := (nI_leI (by omega) (by omega)).mp c20; omega
        refine lv_iload_n hx hb dX7_best_104 rfl (hL.at 3 rfl) ?_
        rw [hQ]
        exact k_iret hx hb hr hlocks hW hS (by omega) (by omega) dX7_best_105 (⟨by rw [← hl, ej, Nat.sub_self]; rfl, rfl, hko, _, _, _, _, _, hT1⟩)
      · try dsimp only at c20
        have hlt : j < mC M := by
          rcases Nat.lt_or_ge j (mC M) with q | q
          · exact q
          · exact absurd (nI_le q (by omega)) c20
        refine lv_aload_n hx hb dX7_best_23 rfl (hL.at 0 rfl) ?_
        refine k_get (ci := 9) (C := RX7) (T := TX7) (N := 15) hx hb hts w_RX7 hown hK hW (by first | assumption | exact up_s | (rw [up_n (by omega)]; first | assumption | exact up_s | (rw [up_n (by omega)]; first | assumption | exact up_s | (rw [up_n (by omega)]; first | assumption | exact up_s | (rw [up_n (by omega)]; first | assumption | exact up_s | (rw [up_n (by omega)]; first | assumption | exact up_s | (rw [up_n (by omega)]; first | assumption | exact up_s | (rw [up_n (by omega)]; first | assumption | exact up_s | (rw [up_n (by omega)]; first | assumption | exact up_s | (rw [up_n (by omega)]; first | assumption | exact up_s | (rw [up_n (by omega)]; first | assumption | exact up_s | (rw [up_n (by omega)]; first | assumption | exact up_s)))))))))))) rfl 0 (by decide) (hq _ q149 rfl) (fun _ h9 => h9) (by rfl) dX7_best_24 ?_
        refine lv_iload hx hb dX7_best_27 (hL.at 6 rfl) ?_
        refine k_aald hx hb hK hW 4 (by first | assumption | exact up_s | (rw [up_n (by omega)]; first | assumption | exact up_s | (rw [up_n (by omega)]; first | assumption | exact up_s | (rw [up_n (by omega)]; first | assumption | exact up_s | (rw [up_n (by omega)]; first | assumption | exact up_s | (rw [up_n (by omega)]; first | assumption | exact up_s | (rw [up_n (by omega)]; first | assumption | exact up_s | (rw [up_n (by omega)]; first | assumption | exact up_s | (rw [up_n (by omega)]; first | assumption | exact up_s | (rw [up_n (by omega)]; first | assumption | exact up_s | (rw [up_n (by omega)]; first | assumption | exact up_s | (rw [up_n (by omega)]; first | assumption | exact up_s)))))))))))) rfl j (by omega) (by omega) rfl (kqs_at hlt) dX7_best_29 ?_
        refine k_ast hx hb hL (i := 7) (by decide) dX7_best_30 (fun ls hL => ?_)
        refine lv_aload_n hx hb dX7_best_32 rfl (hL.at 0 rfl) ?_
        refine k_get (ci := 9) (C := RX7) (T := TX7) (N := 15) hx hb hts w_RX7 hown hK hW (by first | assumption | exact up_s | (rw [up_n (by omega)]; first | assumption | exact up_s | (rw [up_n (by omega)]; first | assumption | exact up_s | (rw [up_n (by omega)]; first | assumption | exact up_s | (rw [up_n (by omega)]; first | assumption | exact up_s | (rw [up_n (by omega)]; first | assumption | exact up_s | (rw [up_n (by omega)]; first | assumption | exact up_s | (rw [up_n (by omega)]; first | assumption | exact up_s | (rw [up_n (by omega)]; first | assumption | exact up_s | (rw [up_n (by omega)]; first | assumption | exact up_s | (rw [up_n (by omega)]; first | assumption | exact up_s | (rw [up_n (by omega)]; first | assumption | exact up_s)))))))))))) rfl 5 (by decide) (hq _ q154 rfl) (fun _ h9 => h9) (by rfl) dX7_best_33 ?_
        refine lv_aload_n hx hb dX7_best_36 rfl (hL.at 2 rfl) ?_
        refine lv_null hx hb dX7_best_37 ?_
        refine lv_aload hx hb dX7_best_38 (hL.at 7 rfl) ?_
        refine k_callVN (q := (RX6, TX6, 11)) (host := "TailorBench") hx hb hml hown hts hK hI hS hW hL.1 (by first | assumption | exact up_s | (rw [up_n (by omega)]; first | assumption | exact up_s | (rw [up_n (by omega)]; first | assumption | exact up_s | (rw [up_n (by omega)]; first | assumption | exact up_s | (rw [up_n (by omega)]; first | assumption | exact up_s | (rw [up_n (by omega)]; first | assumption | exact up_s | (rw [up_n (by omega)]; first | assumption | exact up_s | (rw [up_n (by omega)]; first | assumption | exact up_s | (rw [up_n (by omega)]; first | assumption | exact up_s | (rw [up_n (by omega)]; first | assumption | exact up_s | (rw [up_n (by omega)]; first | assumption | exact up_s | (rw [up_n (by omega)]; first | assumption | exact up_s)))))))))))) rfl (c_spread1 G hm1 ho hi hlt hT1 hN) (gT_in q365 rfl) (hq _ q362 rfl) (hq _ q56 rfl) (hq _ q364 rfl) (hq _ q7 rfl) (show kpar yX6_spread 3 from ⟨by decide, by decide, by decide +kernel⟩) ⟨by decide, by decide⟩ (by show _ ≤ (0 : Nat); omega) (by show _ ≤ (0 : Nat); omega) rfl (by decide) dX7_best_40 (fun v ad40 ct40 H locs hp hW hS => ?_)
        obtain ⟨h1, hk40, ha40⟩ := hp
        rw [h1] at hW
        have hko40 := hko.tr hk40
        have hm40 := hm.out ho hko40
        have hs40 := hm40.1
        have hcl40 := hm40.2.2.1 j hlt
        rcases ha40 with ⟨r40, fl40, fw40, fh40, fr40, e40, rfl, hT40⟩ | ⟨e40, rfl, tb40, fl40, fw40, fh40, fr40, hT40⟩
        · obtain ⟨t7, t8, t9, t10, t11⟩ := id hT40
          refine lv_if_eq (tgt := 98) hx hb dX7_best_43 (by decide) (fun c43 => ?_) (fun c43 => ?_)
          · try dsimp only at c43
            exact absurd c43 (by decide)
          · try dsimp only at c43
            refine lv_aload hx hb dX7_best_46 (hL.at 7 rfl) ?_
            refine k_getN (ci := 2) (C := RX0) (T := TX0) (N := 6) hx hb hts w_RX0 hown hK hW (by first | assumption | exact up_s | (rw [up_n (by omega)]; first | assumption | exact up_s | (rw [up_n (by omega)]; first | assumption | exact up_s | (rw [up_n (by omega)]; first | assumption | exact up_s | (rw [up_n (by omega)]; first | assumption | exact up_s | (rw [up_n (by omega)]; first | assumption | exact up_s | (rw [up_n (by omega)]; first | assumption | exact up_s | (rw [up_n (by omega)]; first | assumption | exact up_s | (rw [up_n (by omega)]; first | assumption | exact up_s | (rw [up_n (by omega)]; first | assumption | exact up_s | (rw [up_n (by omega)]; first | assumption | exact up_s | (rw [up_n (by omega)]; first | assumption | exact up_s)))))))))))) rfl 4 (by decide) (hq _ q482 rfl) (fun _ h9 => h9) (by rfl) dX7_best_48 ?_
            refine lv_aload_n hx hb dX7_best_51 rfl (hL.at 0 rfl) ?_
            refine k_get (ci := 9) (C := RX7) (T := TX7) (N := 15) hx hb hts w_RX7 hown hK hW (by first | assumption | exact up_s | (rw [up_n (by omega)]; first | assumption | exact up_s | (rw [up_n (by omega)]; first | assumption | exact up_s | (rw [up_n (by omega)]; first | assumption | exact up_s | (rw [up_n (by omega)]; first | assumption | exact up_s | (rw [up_n (by omega)]; first | assumption | exact up_s | (rw [up_n (by omega)]; first | assumption | exact up_s | (rw [up_n (by omega)]; first | assumption | exact up_s | (rw [up_n (by omega)]; first | assumption | exact up_s | (rw [up_n (by omega)]; first | assumption | exact up_s | (rw [up_n (by omega)]; first | assumption | exact up_s | (rw [up_n (by omega)]; first | assumption | exact up_s)))))))))))) rfl 5 (by decide) (hq _ q154 rfl) (fun _ h9 => h9) (by rfl) dX7_best_52 ?_
            refine k_getN (ci := 8) (C := RX6) (T := TX6) (N := 11) hx hb hts w_RX6 hown hK hW (by first | assumption | exact up_s | (rw [up_n (by omega)]; first | assumption | exact up_s | (rw [up_n (by omega)]; first | assumption | exact up_s | (rw [up_n (by omega)]; first | assumption | exact up_s | (rw [up_n (by omega)]; first | assumption | exact up_s | (rw [up_n (by omega)]; first | assumption | exact up_s | (rw [up_n (by omega)]; first | assumption | exact up_s | (rw [up_n (by omega)]; first | assumption | exact up_s | (rw [up_n (by omega)]; first | assumption | exact up_s | (rw [up_n (by omega)]; first | assumption | exact up_s | (rw [up_n (by omega)]; first | assumption | exact up_s | (rw [up_n (by omega)]; first | assumption | exact up_s)))))))))))) rfl 7 (by decide) (hq _ q121 rfl) (fun _ h9 => h9) (by rfl) dX7_best_55 ?_
            refine lv_dcmp hx hb dX7_best_58 ?_
            refine lv_if_lt (tgt := 98) hx hb dX7_best_59 (by decide) (fun c59 => ?_) (fun c59 => ?_)
            · rw [cl_lt] at c59
              have hB : ∀ d, fBs M i (d + 1) j bb ff = fBs M i d (j + 1) bb ff := fun d => fBs_n (fBt_n e40 (fun z => z.1 c59))
              refine k_iinc hx hb hL (i := 6) rfl (by decide) dX7_best_98 (fun ls hL => ?_)
              refine lv_goto (tgt := 14) hx hb dX7_best_101 (by decide) ?_
              rw [show nI j + Int32.ofInt 1 = nI (j + 1) from nI_1 j] at hL
              exact ih14 (j + 1) _ _ _ _ _ _ _ _ (by omega) (by omega) (by rw [← hl, show mC M - j = (mC M - (j + 1)) + 1 by omega]; exact (hB _).symm) hko40 hT40 _ _ _ hW hS (hL.le (by repeat (first | exact kle_nil | refine kle_same ?_ | refine kle_drop ?_)))
            · rw [cl_lt] at c59
              
              refine lv_aload hx hb dX7_best_62 (hL.at 7 rfl) ?_
              refine k_getN (ci := 2) (C := RX0) (T := TX0) (N := 6) hx hb hts w_RX0 hown hK hW (by first | assumption | exact up_s | (rw [up_n (by omega)]; first | assumption | exact up_s | (rw [up_n (by omega)]; first | assumption | exact up_s | (rw [up_n (by omega)]; first | assumption | exact up_s | (rw [up_n (by omega)]; first | assumption | exact up_s | (rw [up_n (by omega)]; first | assumption | exact up_s | (rw [up_n (by omega)]; first | assumption | exact up_s | (rw [up_n (by omega)]; first | assumption | exact up_s | (rw [up_n (by omega)]; first | assumption | exact up_s | (rw [up_n (by omega)]; first | assumption | exact up_s | (rw [up_n (by omega)]; first | assumption | exact up_s | (rw [up_n (by omega)]; first | assumption | exact up_s)))))))))))) rfl 2 (by decide) (hq _ q477 rfl) (fun _ h9 => h9) (by rfl) dX7_best_64 ?_
              refine lv_i2d hx hb dX7_best_67 ?_
              refine lv_aload_n hx hb dX7_best_68 rfl (hL.at 0 rfl) ?_
              refine k_get (ci := 9) (C := RX7) (T := TX7) (N := 15) hx hb hts w_RX7 hown hK hW (by first | assumption | exact up_s | (rw [up_n (by omega)]; first | assumption | exact up_s | (rw [up_n (by omega)]; first | assumption | exact up_s | (rw [up_n (by omega)]; first | assumption | exact up_s | (rw [up_n (by omega)]; first | assumption | exact up_s | (rw [up_n (by omega)]; first | assumption | exact up_s | (rw [up_n (by omega)]; first | assumption | exact up_s | (rw [up_n (by omega)]; first | assumption | exact up_s | (rw [up_n (by omega)]; first | assumption | exact up_s | (rw [up_n (by omega)]; first | assumption | exact up_s | (rw [up_n (by omega)]; first | assumption | exact up_s | (rw [up_n (by omega)]; first | assumption | exact up_s)))))))))))) rfl 5 (by decide) (hq _ q154 rfl) (fun _ h9 => h9) (by rfl) dX7_best_69 ?_
              refine k_getN (ci := 8) (C := RX6) (T := TX6) (N := 11) hx hb hts w_RX6 hown hK hW (by first | assumption | exact up_s | (rw [up_n (by omega)]; first | assumption | exact up_s | (rw [up_n (by omega)]; first | assumption | exact up_s | (rw [up_n (by omega)]; first | assumption | exact up_s | (rw [up_n (by omega)]; first | assumption | exact up_s | (rw [up_n (by omega)]; first | assumption | exact up_s | (rw [up_n (by omega)]; first | assumption | exact up_s | (rw [up_n (by omega)]; first | assumption | exact up_s | (rw [up_n (by omega)]; first | assumption | exact up_s | (rw [up_n (by omega)]; first | assumption | exact up_s | (rw [up_n (by omega)]; first | assumption | exact up_s | (rw [up_n (by omega)]; first | assumption | exact up_s)))))))))))) rfl 7 (by decide) (hq _ q121 rfl) (fun _ h9 => h9) (by rfl) dX7_best_72 ?_
              refine lv_dmul hx hb dX7_best_75 (okWorth ho hN hi hlt e40) ?_
              refine k_dst hx hb hL (i := 8) (by decide) dX7_best_76 (fun ls hL => ?_)
              refine lv_iload_n hx hb dX7_best_78 rfl (hL.at 3 rfl) ?_
              refine lv_iconst (v := (-1)) hx hb dX7_best_79 (by decide) ?_
              refine lv_icmp_eq (tgt := 91) hx hb dX7_best_80 (by decide) (fun c80 => ?_) (fun c80 => ?_)
              · try dsimp only at c80
                have hB : ∀ d, fBs M i (d + 1) j bb ff = fBs M i d (j + 1) (nI j) (fWorth M j r40) := fun d => fBs_p (fBt_p e40 c59 (Or.inl c80))
                refine lv_iload hx hb dX7_best_91 (hL.at 6 rfl) ?_
                refine k_ist_n hx hb hL (i := 3) rfl (by decide) dX7_best_93 (fun ls hL => ?_)
                refine lv_dload hx hb dX7_best_94 (hL.at 8 rfl) ?_
                refine k_dst hx hb hL (i := 4) (by decide) dX7_best_96 (fun ls hL => ?_)
                refine k_iinc hx hb hL (i := 6) rfl (by decide) dX7_best_98 (fun ls hL => ?_)
                refine lv_goto (tgt := 14) hx hb dX7_best_101 (by decide) ?_
                rw [show nI j + Int32.ofInt 1 = nI (j + 1) from nI_1 j] at hL
                exact ih14 (j + 1) _ _ _ _ _ _ _ _ (by omega) (by omega) (by rw [← hl, show mC M - j = (mC M - (j + 1)) + 1 by omega]; exact (hB _).symm) hko40 hT40 _ _ _ hW hS (hL.le (by repeat (first | exact kle_nil | refine kle_same ?_ | refine kle_drop ?_)))
              · try dsimp only at c80
                
                refine lv_dload hx hb dX7_best_83 (hL.at 8 rfl) ?_
                refine lv_dload hx hb dX7_best_85 (hL.at 4 rfl) ?_
                refine lv_dcmp hx hb dX7_best_87 ?_
                refine lv_if_ge (tgt := 98) hx hb dX7_best_88 (by decide) (fun c88 => ?_) (fun c88 => ?_)
                · rw [cg_ge] at c88
                  have hB : ∀ d, fBs M i (d + 1) j bb ff = fBs M i d (j + 1) bb ff := fun d => fBs_n (fBt_n e40 (fun z => z.2.elim c80 c88))
                  refine k_iinc hx hb hL (i := 6) rfl (by decide) dX7_best_98 (fun ls hL => ?_)
                  refine lv_goto (tgt := 14) hx hb dX7_best_101 (by decide) ?_
                  rw [show nI j + Int32.ofInt 1 = nI (j + 1) from nI_1 j] at hL
                  exact ih14 (j + 1) _ _ _ _ _ _ _ _ (by omega) (by omega) (by rw [← hl, show mC M - j = (mC M - (j + 1)) + 1 by omega]; exact (hB _).symm) hko40 hT40 _ _ _ hW hS (hL.le (by repeat (first | exact kle_nil | refine kle_same ?_ | refine kle_drop ?_)))
                · rw [cg_ge] at c88
                  have hB : ∀ d, fBs M i (d + 1) j bb ff = fBs M i d (j + 1) (nI j) (fWorth M j r40) := fun d => fBs_p (fBt_p e40 c59 (Or.inr (Decidable.not_not.mp c88)))
                  refine lv_iload hx hb dX7_best_91 (hL.at 6 rfl) ?_
                  refine k_ist_n hx hb hL (i := 3) rfl (by decide) dX7_best_93 (fun ls hL => ?_)
                  refine lv_dload hx hb dX7_best_94 (hL.at 8 rfl) ?_
                  refine k_dst hx hb hL (i := 4) (by decide) dX7_best_96 (fun ls hL => ?_)
                  refine k_iinc hx hb hL (i := 6) rfl (by decide) dX7_best_98 (fun ls hL => ?_)
                  refine lv_goto (tgt := 14) hx hb dX7_best_101 (by decide) ?_
                  rw [show nI j + Int32.ofInt 1 = nI (j + 1) from nI_1 j] at hL
                  exact ih14 (j + 1) _ _ _ _ _ _ _ _ (by omega) (by omega) (by rw [← hl, show mC M - j = (mC M - (j + 1)) + 1 by omega]; exact (hB _).symm) hko40 hT40 _ _ _ hW hS (hL.le (by repeat (first | exact kle_nil | refine kle_same ?_ | refine kle_drop ?_)))
        · have hB : ∀ d, fBs M i (d + 1) j bb ff = fBs M i d (j + 1) bb ff := fun d => fBs_n (fBt_0 e40)
          refine lv_if_eq (tgt := 98) hx hb dX7_best_43 (by decide) (fun c43 => ?_) (fun c43 => ?_)
          · try dsimp only at c43
            refine k_iinc hx hb hL (i := 6) rfl (by decide) dX7_best_98 (fun ls hL => ?_)
            refine lv_goto (tgt := 14) hx hb dX7_best_101 (by decide) ?_
            rw [show nI j + Int32.ofInt 1 = nI (j + 1) from nI_1 j] at hL
            exact ih14 (j + 1) _ _ _ _ _ _ _ _ (by omega) (by omega) (by rw [← hl, show mC M - j = (mC M - (j + 1)) + 1 by omega]; exact (hB _).symm) hko40 hT40 _ _ _ hW hS (hL.le (by repeat (first | exact kle_nil | refine kle_same ?_ | refine kle_drop ?_)))
          · try dsimp only at c43
            exact absurd c43 (by decide)
  exact loop14 (mC M + 1) 0 (-1) cD0 ct tb fl fw fh fr (by omega) (Nat.zero_le _) rfl kOut.rf hT _ _ _ hW hS hL

set_option maxHeartbeats 4000000 in
set_option maxRecDepth 100000 in
/-- TailorBench.mate  -/
theorem c_qmate {l : Launch} {D : va_G} {cy : Nat → ClassId} {sad : Nat → Nat} {em : Nat} {s0 : State} {a0 : Array Value} (G : kG kSTR l D cy sad em s0 a0) {ad : Nat → Nat} {ct : Nat → Option va_E} {M : tM} (hm : RepC cy ad ct M) (ho : okM M) (x xc : Int32) {tb : tTb} {fl fw fh fr : Nat → UInt64} (hT : RepT cy ad ct tb fl fw fh fr) {nb : Nat} (hN : okN nb M) :
    KX l yX7_mate [.code yX7_mate prog_1_method_27_code 11 (some .int)] 7 150 3 18 [.ref (ad 1), .int x, .int xc] D s0 ad ct (fun v ad' ct' => ∃ i jc, i < mO M ∧ x = nI i ∧ jc < mC M ∧ xc = nI jc ∧ v = some (.int (fMt M i jc (mO M) 0 (-1) cD0)) ∧ ad' = ad ∧ kOut ct ct' ∧ ∃ (tb : tTb) (fl fw fh fr : Nat → UInt64), RepT cy ad ct' tb fl fw fh fr) (fun E => E = eIdx ∧ (¬ kIn x (mO M) ∨ ¬ kIn xc (mC M))) := by
  refine KX.of G (by decide) (Nat.le_of_ble_eq_true rfl) (Nat.le_of_ble_eq_true rfl) ?_
  intro p e s m args below meth c ls Q hQ X hin hL hW hS
  obtain ⟨hx, hb, hr, hml, hown, hlocks, hts, hq, hK, hI⟩ := X
  have hbn := ho.1
  have hs1 := hm.1
  refine lv_aload_n hx hb dX7_mate_0 rfl (hL.at 0 rfl) ?_
  refine lv_iload_n hx hb dX7_mate_1 rfl (hL.at 1 rfl) ?_
  refine k_callVX (q := (RX7, TX7, 15)) hx hb hml hown hts hK hI hS hW hL.1 (by first | assumption | exact up_s | (rw [up_n (by omega)]; first | assumption | exact up_s | (rw [up_n (by omega)]; first | assumption | exact up_s | (rw [up_n (by omega)]; first | assumption | exact up_s | (rw [up_n (by omega)]; first | assumption | exact up_s | (rw [up_n (by omega)]; first | assumption | exact up_s | (rw [up_n (by omega)]; first | assumption | exact up_s | (rw [up_n (by omega)]; first | assumption | exact up_s | (rw [up_n (by omega)]; first | assumption | exact up_s | (rw [up_n (by omega)]; first | assumption | exact up_s | (rw [up_n (by omega)]; first | assumption | exact up_s | (rw [up_n (by omega)]; first | assumption | exact up_s)))))))))))) rfl (c_orderAt G hm ho x) (m5 (gT_in q325 rfl) (gT_in q327 rfl) (gT_in q3 rfl) (gT_in q55 rfl) (gT_in q328 rfl)) rfl (show kpar yX7_orderAt 1 from ⟨by decide, by decide, by decide +kernel⟩) ⟨by decide, by decide⟩ (by show _ ≤ (3 : Nat); omega) (by show _ ≤ (18 : Nat); omega) rfl (by decide) dX7_mate_2 (fun E ce q9 H locs hp hW hS hce hcv hcl => ?_) (fun v ad2 ct2 H locs hp hW hS => ?_)
  · rw [hQ]; exact k_out hown hlocks hin hW hS hce hcv hcl (by omega) (by omega) (⟨hp.1, Or.inl hp.2⟩)
  obtain ⟨i, hi, hxi, rfl, h1, h2⟩ := hp
  rw [h1, h2] at hW
  refine k_ast_n hx hb hL (i := 3) rfl (by decide) dX7_mate_5 (fun ls hL => ?_)
  refine lv_aload_n hx hb dX7_mate_6 rfl (hL.at 0 rfl) ?_
  refine lv_iload_n hx hb dX7_mate_7 rfl (hL.at 2 rfl) ?_
  refine k_callVX (q := (RX7, TX7, 15)) hx hb hml hown hts hK hI hS hW hL.1 (by first | assumption | exact up_s | (rw [up_n (by omega)]; first | assumption | exact up_s | (rw [up_n (by omega)]; first | assumption | exact up_s | (rw [up_n (by omega)]; first | assumption | exact up_s | (rw [up_n (by omega)]; first | assumption | exact up_s | (rw [up_n (by omega)]; first | assumption | exact up_s | (rw [up_n (by omega)]; first | assumption | exact up_s | (rw [up_n (by omega)]; first | assumption | exact up_s | (rw [up_n (by omega)]; first | assumption | exact up_s | (rw [up_n (by omega)]; first | assumption | exact up_s | (rw [up_n (by omega)]; first | assumption | exact up_s | (rw [up_n (by omega)]; first | assumption | exact up_s)))))))))))) rfl (c_clothAt G hm ho xc) (m5 (gT_in q296 rfl) (gT_in q298 rfl) (gT_in q2 rfl) (gT_in q55 rfl) (gT_in q299 rfl)) rfl (show kpar yX7_clothAt 1 from ⟨by decide, by decide, by decide +kernel⟩) ⟨by decide, by decide⟩ (by show _ ≤ (3 : Nat); omega) (by show _ ≤ (18 : Nat); omega) rfl (by decide) dX7_mate_8 (fun E ce q9 H locs hp hW hS hce hcv hcl => ?_) (fun v ad8 ct8 H locs hp hW hS => ?_)
  · rw [hQ]; exact k_out hown hlocks hin hW hS hce hcv hcl (by omega) (by omega) (⟨hp.1, Or.inr hp.2⟩)
  obtain ⟨jc, hc, hxjc, rfl, h1, h2⟩ := hp
  rw [h1, h2] at hW
  refine k_ast hx hb hL (i := 4) (by decide) dX7_mate_11 (fun ls hL => ?_)
  refine lv_iconst (v := (-1)) hx hb dX7_mate_13 (by decide) ?_
  refine k_ist hx hb hL (i := 5) (by decide) dX7_mate_14 (fun ls hL => ?_)
  refine lv_dconst0 hx hb dX7_mate_16 ?_
  refine k_dst hx hb hL (i := 6) (by decide) dX7_mate_17 (fun ls hL => ?_)
  refine lv_iconst (v := 0) hx hb dX7_mate_19 (by decide) ?_
  refine k_ist hx hb hL (i := 8) (by decide) dX7_mate_20 (fun ls hL => ?_)
  have loop22 : ∀ (nf : Nat) (j : Nat) (bb : Int32) (ff : UInt64) (ct1 : Nat → Option va_E) (tb1 : tTb) (fl1 fw1 fh1 fr1 : Nat → UInt64), mO M - j < nf → j ≤ mO M → fMt M i jc (mO M - j) j bb ff = fMt M i jc (mO M) 0 (-1) cD0 → kOut ct ct1 → RepT cy ad ct1 tb1 fl1 fw1 fh1 fr1 → ∀ (H : Heap) (locs : List Loc) (ls : Array Slot), kW D s0.heap.size ad ct1 H → va_S (kA s0) s.heap H locs → lvP ls 11 [some (.ref (ad 1)), some (.int x), some (.int xc), some (.ref (ad (64 + i))), some (.ref (ad (16 + jc))), some (.int bb), some (.double ff), none, some (.int (nI j)), none, none] → W p l e (krm 7 150 3 18) s m args below meth c H locs 2 12 Q (F0 m 22 ls []) := by
    intro nf
    induction nf with
    | zero => intro j bb ff ct1 tb1 fl1 fw1 fh1 fr1 hms22; exact absurd hms22 (Nat.not_lt_zero _)
    | succ nf ih22 =>
      intro j bb ff ct1 tb1 fl1 fw1 fh1 fr1 hms22 hj hl hko hT1 H locs ls hW hS hL
      have hm1 := hm.out ho hko
      have hs1 := hm1.1
      have ha6 := hm1.2.1.2.2.2.2
      obtain ⟨t7, t8, t9, t10, t11⟩ := id hT1
      refine lv_iload hx hb dX7_mate_22 (hL.at 8 rfl) ?_
      refine lv_aload_n hx hb dX7_mate_24 rfl (hL.at 0 rfl) ?_
      refine k_get (ci := 9) (C := RX7) (T := TX7) (N := 15) hx hb hts w_RX7 hown hK hW (by first | assumption | exact up_s | (rw [up_n (by omega)]; first | assumption | exact up_s | (rw [up_n (by omega)]; first | assumption | exact up_s | (rw [up_n (by omega)]; first | assumption | exact up_s | (rw [up_n (by omega)]; first | assumption | exact up_s | (rw [up_n (by omega)]; first | assumption | exact up_s | (rw [up_n (by omega)]; first | assumption | exact up_s | (rw [up_n (by omega)]; first | assumption | exact up_s | (rw [up_n (by omega)]; first | assumption | exact up_s | (rw [up_n (by omega)]; first | assumption | exact up_s | (rw [up_n (by omega)]; first | assumption | exact up_s | (rw [up_n (by omega)]; first | assumption | exact up_s)))))))))))) rfl 10 (by decide) (hq _ q159 rfl) (fun _ h9 => h9) (by rfl) dX7_mate_25 ?_
      refine lv_icmp_ge (tgt := 88) hx hb dX7_mate_28 (by decide) (fun c28 => ?_) (fun c28 => ?_)
      · try dsimp only at c28
        have ej : j = mO M := by have := (nI_leI (by omega) (by omega)).mp c28; omega
        refine lv_iload hx hb dX7_mate_88 (hL.at 5 rfl) ?_
        rw [hQ]
        exact vx_ret (k_iret hx hb hr hlocks hW hS (by omega) (by omega) dX7_mate_90 (⟨i, jc, hi, hxi, hc, hxjc, by rw [← hl, ej, Nat.sub_self]; rfl, rfl, hko, _, _, _, _, _, hT1⟩))
      · try dsimp only at c28
        have hlt : j < mO M := by
          rcases Nat.lt_or_ge j (mO M) with q | q
          · exact q
          · exact absurd (nI_le q (by omega)) c28
        refine lv_iload hx hb dX7_mate_31 (hL.at 8 rfl) ?_
        refine lv_iload_n hx hb dX7_mate_33 rfl (hL.at 1 rfl) ?_
        refine lv_icmp_eq (tgt := 82) hx hb dX7_mate_34 (by decide) (fun c34 => ?_) (fun c34 => ?_)
        · try dsimp only at c34
          have hB : ∀ d, fMt M i jc (d + 1) j bb ff = fMt M i jc d (j + 1) bb ff := fun d => fMt_n (fun z => z.1 ((nI_eq (by omega) (by omega)).mp (c34.trans hxi)))
          have hko61 := hko
          have hT61 := hT1
          refine k_iinc hx hb hL (i := 8) rfl (by decide) dX7_mate_82 (fun ls hL => ?_)
          refine lv_goto (tgt := 22) hx hb dX7_mate_85 (by decide) ?_
          rw [show nI j + Int32.ofInt 1 = nI (j + 1) from nI_1 j] at hL
          exact ih22 (j + 1) _ _ _ _ _ _ _ _ (by omega) (by omega) (by rw [← hl, show mO M - j = (mO M - (j + 1)) + 1 by omega]; exact (hB _).symm) hko61 hT61 _ _ _ hW hS (hL.le (by repeat (first | exact kle_nil | refine kle_same ?_ | refine kle_drop ?_)))
        · try dsimp only at c34
          have hne : ¬ j = i := fun z => c34 (by rw [z, hxi])
          have hod1 := hm1.2.2.2.2.2.2.2.2.1 j hlt
          have hs5 := (ho.2.2.2.2.2 j hlt).2.2.2
          refine lv_aload_n hx hb dX7_mate_37 rfl (hL.at 0 rfl) ?_
          refine k_get (ci := 9) (C := RX7) (T := TX7) (N := 15) hx hb hts w_RX7 hown hK hW (by first | assumption | exact up_s | (rw [up_n (by omega)]; first | assumption | exact up_s | (rw [up_n (by omega)]; first | assumption | exact up_s | (rw [up_n (by omega)]; first | assumption | exact up_s | (rw [up_n (by omega)]; first | assumption | exact up_s | (rw [up_n (by omega)]; first | assumption | exact up_s | (rw [up_n (by omega)]; first | assumption | exact up_s | (rw [up_n (by omega)]; first | assumption | exact up_s | (rw [up_n (by omega)]; first | assumption | exact up_s | (rw [up_n (by omega)]; first | assumption | exact up_s | (rw [up_n (by omega)]; first | assumption | exact up_s | (rw [up_n (by omega)]; first | assumption | exact up_s)))))))))))) rfl 4 (by decide) (hq _ q153 rfl) (fun _ h9 => h9) (by rfl) dX7_mate_38 ?_
          refine lv_iload hx hb dX7_mate_41 (hL.at 8 rfl) ?_
          refine k_aald hx hb hK hW 8 (by first | assumption | exact up_s | (rw [up_n (by omega)]; first | assumption | exact up_s | (rw [up_n (by omega)]; first | assumption | exact up_s | (rw [up_n (by omega)]; first | assumption | exact up_s | (rw [up_n (by omega)]; first | assumption | exact up_s | (rw [up_n (by omega)]; first | assumption | exact up_s | (rw [up_n (by omega)]; first | assumption | exact up_s | (rw [up_n (by omega)]; first | assumption | exact up_s | (rw [up_n (by omega)]; first | assumption | exact up_s | (rw [up_n (by omega)]; first | assumption | exact up_s | (rw [up_n (by omega)]; first | assumption | exact up_s | (rw [up_n (by omega)]; first | assumption | exact up_s)))))))))))) rfl j (by omega) (by omega) rfl (kqs_at hlt) dX7_mate_43 ?_
          refine k_getN (ci := 4) (C := RX2) (T := TX2) (N := 10) hx hb hts w_RX2 hown hK hW hod1 rfl 4 (by decide) (hq _ q679 rfl) (fun _ h9 => h9) (by rfl) dX7_mate_44 ?_
          refine lv_if_ne (tgt := 82) hx hb dX7_mate_47 (by decide) (fun c47 => ?_) (fun c47 => ?_)
          · try simp only [b2_eq, Decidable.not_not] at c47
            try dsimp only at c47
            have hs0 : ¬ oState (mod M j) = 0 := fun z => c47 (by rw [z]; rfl)
            have hB : ∀ d, fMt M i jc (d + 1) j bb ff = fMt M i jc d (j + 1) bb ff := fun d => fMt_n (fun z => hs0 z.2.1)
            have hko61 := hko
            have hT61 := hT1
            refine k_iinc hx hb hL (i := 8) rfl (by decide) dX7_mate_82 (fun ls hL => ?_)
            refine lv_goto (tgt := 22) hx hb dX7_mate_85 (by decide) ?_
            rw [show nI j + Int32.ofInt 1 = nI (j + 1) from nI_1 j] at hL
            exact ih22 (j + 1) _ _ _ _ _ _ _ _ (by omega) (by omega) (by rw [← hl, show mO M - j = (mO M - (j + 1)) + 1 by omega]; exact (hB _).symm) hko61 hT61 _ _ _ hW hS (hL.le (by repeat (first | exact kle_nil | refine kle_same ?_ | refine kle_drop ?_)))
          · try simp only [b2_eq, Decidable.not_not] at c47
            try dsimp only at c47
            have hs0 : oState (mod M j) = 0 := by
              rcases Nat.eq_zero_or_pos (oState (mod M j)) with q | q
              · exact q
              · exact absurd (nI_ne0 q (by omega)) (by first | exact c47 | exact fun z => z c47)
            refine lv_aload_n hx hb dX7_mate_50 rfl (hL.at 0 rfl) ?_
            refine lv_aload_n hx hb dX7_mate_51 rfl (hL.at 3 rfl) ?_
            refine lv_aload_n hx hb dX7_mate_52 rfl (hL.at 0 rfl) ?_
            refine k_get (ci := 9) (C := RX7) (T := TX7) (N := 15) hx hb hts w_RX7 hown hK hW (by first | assumption | exact up_s | (rw [up_n (by omega)]; first | assumption | exact up_s | (rw [up_n (by omega)]; first | assumption | exact up_s | (rw [up_n (by omega)]; first | assumption | exact up_s | (rw [up_n (by omega)]; first | assumption | exact up_s | (rw [up_n (by omega)]; first | assumption | exact up_s | (rw [up_n (by omega)]; first | assumption | exact up_s | (rw [up_n (by omega)]; first | assumption | exact up_s | (rw [up_n (by omega)]; first | assumption | exact up_s | (rw [up_n (by omega)]; first | assumption | exact up_s | (rw [up_n (by omega)]; first | assumption | exact up_s | (rw [up_n (by omega)]; first | assumption | exact up_s)))))))))))) rfl 4 (by decide) (hq _ q153 rfl) (fun _ h9 => h9) (by rfl) dX7_mate_53 ?_
            refine lv_iload hx hb dX7_mate_56 (hL.at 8 rfl) ?_
            refine k_aald hx hb hK hW 8 (by first | assumption | exact up_s | (rw [up_n (by omega)]; first | assumption | exact up_s | (rw [up_n (by omega)]; first | assumption | exact up_s | (rw [up_n (by omega)]; first | assumption | exact up_s | (rw [up_n (by omega)]; first | assumption | exact up_s | (rw [up_n (by omega)]; first | assumption | exact up_s | (rw [up_n (by omega)]; first | assumption | exact up_s | (rw [up_n (by omega)]; first | assumption | exact up_s | (rw [up_n (by omega)]; first | assumption | exact up_s | (rw [up_n (by omega)]; first | assumption | exact up_s | (rw [up_n (by omega)]; first | assumption | exact up_s | (rw [up_n (by omega)]; first | assumption | exact up_s)))))))))))) rfl j (by omega) (by omega) rfl (kqs_at hlt) dX7_mate_58 ?_
            refine lv_aload hx hb dX7_mate_59 (hL.at 4 rfl) ?_
            refine k_callV (q := (RX7, TX7, 15)) hx hb hml hown hts hK hI hS hW hL.1 (by first | assumption | exact up_s | (rw [up_n (by omega)]; first | assumption | exact up_s | (rw [up_n (by omega)]; first | assumption | exact up_s | (rw [up_n (by omega)]; first | assumption | exact up_s | (rw [up_n (by omega)]; first | assumption | exact up_s | (rw [up_n (by omega)]; first | assumption | exact up_s | (rw [up_n (by omega)]; first | assumption | exact up_s | (rw [up_n (by omega)]; first | assumption | exact up_s | (rw [up_n (by omega)]; first | assumption | exact up_s | (rw [up_n (by omega)]; first | assumption | exact up_s | (rw [up_n (by omega)]; first | assumption | exact up_s | (rw [up_n (by omega)]; first | assumption | exact up_s)))))))))))) rfl (c_savedBy G hm1 ho hi hlt hc hT1 hN) (m5 (gT_in q828 rfl) (gT_in q830 rfl) (gT_in q26 rfl) (gT_in q55 rfl) (gT_in q831 rfl)) rfl (show kpar yX7_savedBy 3 from ⟨by decide, by decide, by decide +kernel⟩) ⟨by decide, by decide⟩ (by show _ ≤ (3 : Nat); omega) (by show _ ≤ (18 : Nat); omega) rfl (by decide) dX7_mate_61 (fun v ad61 ct61 H locs hp hW hS => ?_)
            obtain ⟨rfl, h1, hk61, tb61, fl61, fw61, fh61, fr61, hT61⟩ := hp
            rw [h1] at hW
            have hko61 := hko.tr hk61
            refine k_dst hx hb hL (i := 9) (by decide) dX7_mate_64 (fun ls hL => ?_)
            refine lv_dload hx hb dX7_mate_66 (hL.at 9 rfl) ?_
            refine lv_dload hx hb dX7_mate_68 (hL.at 6 rfl) ?_
            refine lv_dcmp hx hb dX7_mate_70 ?_
            refine lv_if_le (tgt := 82) hx hb dX7_mate_71 (by decide) (fun c71 => ?_) (fun c71 => ?_)
            · rw [cl_le] at c71
              have hB : ∀ d, fMt M i jc (d + 1) j bb ff = fMt M i jc d (j + 1) bb ff := fun d => fMt_n (fun z => c71 z.2.2)
              refine k_iinc hx hb hL (i := 8) rfl (by decide) dX7_mate_82 (fun ls hL => ?_)
              refine lv_goto (tgt := 22) hx hb dX7_mate_85 (by decide) ?_
              rw [show nI j + Int32.ofInt 1 = nI (j + 1) from nI_1 j] at hL
              exact ih22 (j + 1) _ _ _ _ _ _ _ _ (by omega) (by omega) (by rw [← hl, show mO M - j = (mO M - (j + 1)) + 1 by omega]; exact (hB _).symm) hko61 hT61 _ _ _ hW hS (hL.le (by repeat (first | exact kle_nil | refine kle_same ?_ | refine kle_drop ?_)))
            · rw [cl_le] at c71
              have hB : ∀ d, fMt M i jc (d + 1) j bb ff = fMt M i jc d (j + 1) (nI j) (fSaved M i j jc) := fun d => fMt_p ⟨hne, hs0, Decidable.not_not.mp c71⟩
              refine lv_iload hx hb dX7_mate_74 (hL.at 8 rfl) ?_
              refine k_ist hx hb hL (i := 5) (by decide) dX7_mate_76 (fun ls hL => ?_)
              refine lv_dload hx hb dX7_mate_78 (hL.at 9 rfl) ?_
              refine k_dst hx hb hL (i := 6) (by decide) dX7_mate_80 (fun ls hL => ?_)
              refine k_iinc hx hb hL (i := 8) rfl (by decide) dX7_mate_82 (fun ls hL => ?_)
              refine lv_goto (tgt := 22) hx hb dX7_mate_85 (by decide) ?_
              rw [show nI j + Int32.ofInt 1 = nI (j + 1) from nI_1 j] at hL
              exact ih22 (j + 1) _ _ _ _ _ _ _ _ (by omega) (by omega) (by rw [← hl, show mO M - j = (mO M - (j + 1)) + 1 by omega]; exact (hB _).symm) hko61 hT61 _ _ _ hW hS (hL.le (by repeat (first | exact kle_nil | refine kle_same ?_ | refine kle_drop ?_)))
  exact loop22 (mO M + 1) 0 (-1) cD0 ct tb fl fw fh fr (by omega) (Nat.zero_le _) rfl kOut.rf hT _ _ _ hW hS hL
