/-! the table, 2 -/
set_option maxHeartbeats 4000000 in
set_option maxRecDepth 100000 in
/-- TailorBench$Table.putIntoNewRow  -/
theorem c_newRow {l : Launch} {D : va_G} {cy : Nat → ClassId} {sad : Nat → Nat} {em : Nat} {s0 : State} {a0 : Array Value} (G : kG kSTR l D cy sad em s0 a0) {ad : Nat → Nat} {ct : Nat → Option va_E} {n : Nat} {cov wd : UInt64} {sp : Nat} {fl fw : Nat → UInt64} {ls0 : tLs} (hT : RepL cy ad ct n cov wd sp fl fw ls0) (room height : UInt64) (hrows : ls0.1 < 40) (hsp : sp ≤ 20) (hok : okNew wd sp ls0 room height) :
    KM l yX6_putIntoNewRow [.code yX6_putIntoNewRow prog_8_method_9_code 7 (some .boolean)] 1 30 0 0 [.ref (ad 7), .double room, .double height] D s0 ad ct (fun v ad' ct' => ad' = ad ∧ kOut ct ct' ∧ kOpt cy ad ct' n cov wd sp fl fw ls0 (fNew wd sp ls0 room height) v) := by
  refine KM.of G (by decide) (Nat.le_of_ble_eq_true rfl) (Nat.le_of_ble_eq_true rfl) ?_
  intro p e s m args below meth c ls Q hQ X hin hL hW hS
  obtain ⟨hx, hb, hr, hml, hown, hlocks, hts, hq, hK, hI⟩ := X
  obtain ⟨t7, t8, t9, t10, t11⟩ := id hT
  refine lv_dload_n hx hb dX6_putIntoNewRow_0 rfl (hL.at 1 rfl) ?_
  refine lv_aload_n hx hb dX6_putIntoNewRow_1 rfl (hL.at 0 rfl) ?_
  refine k_get (ci := 8) (C := RX6) (T := TX6) (N := 11) hx hb hts w_RX6 hown hK hW (by first | assumption | exact up_s | (rw [up_n (by omega)]; first | assumption | exact up_s | (rw [up_n (by omega)]; first | assumption | exact up_s | (rw [up_n (by omega)]; first | assumption | exact up_s | (rw [up_n (by omega)]; first | assumption | exact up_s | (rw [up_n (by omega)]; first | assumption | exact up_s)))))) rfl 9 (by decide) (hq _ q123 rfl) (fun _ h9 => h9) (by rfl) dX6_putIntoNewRow_2 ?_
  refine lv_dcmp hx hb dX6_putIntoNewRow_5 ?_
  refine lv_if_gt (tgt := 18) hx hb dX6_putIntoNewRow_6 (by decide) (fun c6 => ?_) (fun c6 => ?_)
  · rw [cl_gt] at c6
    refine lv_iconst (v := 0) hx hb dX6_putIntoNewRow_18 (by decide) ?_
    rw [hQ]
    exact k_zret hx hb hr hlocks rfl hW hS (by omega) (by omega) dX6_putIntoNewRow_19 (⟨rfl, kOut.rf, Or.inr ⟨fNew_none c6, rfl, hT⟩⟩)
  · rw [cl_gt] at c6
    refine lv_aload_n hx hb dX6_putIntoNewRow_9 rfl (hL.at 0 rfl) ?_
    refine k_get (ci := 8) (C := RX6) (T := TX6) (N := 11) hx hb hts w_RX6 hown hK hW (by first | assumption | exact up_s | (rw [up_n (by omega)]; first | assumption | exact up_s | (rw [up_n (by omega)]; first | assumption | exact up_s | (rw [up_n (by omega)]; first | assumption | exact up_s | (rw [up_n (by omega)]; first | assumption | exact up_s | (rw [up_n (by omega)]; first | assumption | exact up_s)))))) rfl 5 (by decide) (hq _ q116 rfl) (fun _ h9 => h9) (by rfl) dX6_putIntoNewRow_10 ?_
    refine lv_bipush (v := 40) hx hb dX6_putIntoNewRow_13 (by decide) ?_
    refine lv_icmp_lt (tgt := 20) hx hb dX6_putIntoNewRow_15 (by decide) (fun c15 => ?_) (fun c15 => ?_)
    · try dsimp only at c15
      refine lv_aload_n hx hb dX6_putIntoNewRow_20 rfl (hL.at 0 rfl) ?_
      refine k_get (ci := 8) (C := RX6) (T := TX6) (N := 11) hx hb hts w_RX6 hown hK hW (by first | assumption | exact up_s | (rw [up_n (by omega)]; first | assumption | exact up_s | (rw [up_n (by omega)]; first | assumption | exact up_s | (rw [up_n (by omega)]; first | assumption | exact up_s | (rw [up_n (by omega)]; first | assumption | exact up_s | (rw [up_n (by omega)]; first | assumption | exact up_s)))))) rfl 10 (by decide) (hq _ q124 rfl) (fun _ h9 => h9) (by rfl) dX6_putIntoNewRow_21 ?_
      refine lv_if_le (tgt := 46) hx hb dX6_putIntoNewRow_24 (by decide) (fun c24 => ?_) (fun c24 => ?_)
      · try dsimp only at c24
        have hz := nI_le0 c24 (by omega)
        refine lv_dload_n hx hb dX6_putIntoNewRow_46 rfl (hL.at 3 rfl) ?_
        refine lv_topd (fun r hr0 => ?_)
        have hr1 := hr0.trans (fRaise_zero hz)
        subst hr1
        refine k_dst hx hb hL (i := 5) (by decide) dX6_putIntoNewRow_47 (fun ls hL => ?_)
        refine lv_aload_n hx hb dX6_putIntoNewRow_49 rfl (hL.at 0 rfl) ?_
        refine k_get (ci := 8) (C := RX6) (T := TX6) (N := 11) hx hb hts w_RX6 hown hK hW (by first | assumption | exact up_s | (rw [up_n (by omega)]; first | assumption | exact up_s | (rw [up_n (by omega)]; first | assumption | exact up_s | (rw [up_n (by omega)]; first | assumption | exact up_s | (rw [up_n (by omega)]; first | assumption | exact up_s | (rw [up_n (by omega)]; first | assumption | exact up_s)))))) rfl 2 (by decide) (hq _ q112 rfl) (fun _ h9 => h9) (by rfl) dX6_putIntoNewRow_50 ?_
        refine lv_aload_n hx hb dX6_putIntoNewRow_53 rfl (hL.at 0 rfl) ?_
        refine k_get (ci := 8) (C := RX6) (T := TX6) (N := 11) hx hb hts w_RX6 hown hK hW (by first | assumption | exact up_s | (rw [up_n (by omega)]; first | assumption | exact up_s | (rw [up_n (by omega)]; first | assumption | exact up_s | (rw [up_n (by omega)]; first | assumption | exact up_s | (rw [up_n (by omega)]; first | assumption | exact up_s | (rw [up_n (by omega)]; first | assumption | exact up_s)))))) rfl 5 (by decide) (hq _ q116 rfl) (fun _ h9 => h9) (by rfl) dX6_putIntoNewRow_54 ?_
        refine lv_dload hx hb dX6_putIntoNewRow_57 (hL.at 5 rfl) ?_
        refine k_dast hx hb hK hW hS (by first | assumption | exact up_s | (rw [up_n (by omega)]; first | assumption | exact up_s | (rw [up_n (by omega)]; first | assumption | exact up_s | (rw [up_n (by omega)]; first | assumption | exact up_s | (rw [up_n (by omega)]; first | assumption | exact up_s | (rw [up_n (by omega)]; first | assumption | exact up_s)))))) (by omega) _ (by omega) (by omega) rfl dX6_putIntoNewRow_59 (fun H locs hW hS => ?_)
        refine lv_aload_n hx hb dX6_putIntoNewRow_60 rfl (hL.at 0 rfl) ?_
        refine k_get (ci := 8) (C := RX6) (T := TX6) (N := 11) hx hb hts w_RX6 hown hK hW (by first | assumption | exact up_s | (rw [up_n (by omega)]; first | assumption | exact up_s | (rw [up_n (by omega)]; first | assumption | exact up_s | (rw [up_n (by omega)]; first | assumption | exact up_s | (rw [up_n (by omega)]; first | assumption | exact up_s | (rw [up_n (by omega)]; first | assumption | exact up_s)))))) rfl 3 (by decide) (hq _ q113 rfl) (fun _ h9 => h9) (by rfl) dX6_putIntoNewRow_61 ?_
        refine lv_aload_n hx hb dX6_putIntoNewRow_64 rfl (hL.at 0 rfl) ?_
        refine k_get (ci := 8) (C := RX6) (T := TX6) (N := 11) hx hb hts w_RX6 hown hK hW (by first | assumption | exact up_s | (rw [up_n (by omega)]; first | assumption | exact up_s | (rw [up_n (by omega)]; first | assumption | exact up_s | (rw [up_n (by omega)]; first | assumption | exact up_s | (rw [up_n (by omega)]; first | assumption | exact up_s | (rw [up_n (by omega)]; first | assumption | exact up_s)))))) rfl 5 (by decide) (hq _ q116 rfl) (fun _ h9 => h9) (by rfl) dX6_putIntoNewRow_65 ?_
        refine lv_aload_n hx hb dX6_putIntoNewRow_68 rfl (hL.at 0 rfl) ?_
        refine k_get (ci := 8) (C := RX6) (T := TX6) (N := 11) hx hb hts w_RX6 hown hK hW (by first | assumption | exact up_s | (rw [up_n (by omega)]; first | assumption | exact up_s | (rw [up_n (by omega)]; first | assumption | exact up_s | (rw [up_n (by omega)]; first | assumption | exact up_s | (rw [up_n (by omega)]; first | assumption | exact up_s | (rw [up_n (by omega)]; first | assumption | exact up_s)))))) rfl 9 (by decide) (hq _ q123 rfl) (fun _ h9 => h9) (by rfl) dX6_putIntoNewRow_69 ?_
        refine lv_dload_n hx hb dX6_putIntoNewRow_72 rfl (hL.at 1 rfl) ?_
        refine lv_dsub hx hb dX6_putIntoNewRow_73 hok.2.1 ?_
        refine k_dast hx hb hK hW hS (by first | assumption | exact up_s | (rw [up_n (by omega)]; first | assumption | exact up_s | (rw [up_n (by omega)]; first | assumption | exact up_s | (rw [up_n (by omega)]; first | assumption | exact up_s | (rw [up_n (by omega)]; first | assumption | exact up_s | (rw [up_n (by omega)]; first | assumption | exact up_s)))))) (by omega) _ (by omega) (by omega) rfl dX6_putIntoNewRow_74 (fun H locs hW hS => ?_)
        refine lv_aload_n hx hb dX6_putIntoNewRow_75 rfl (hL.at 0 rfl) ?_
        refine lv_dup hx hb dX6_putIntoNewRow_76 rfl ?_
        refine k_get (ci := 8) (C := RX6) (T := TX6) (N := 11) hx hb hts w_RX6 hown hK hW (by first | assumption | exact up_s | (rw [up_n (by omega)]; first | assumption | exact up_s | (rw [up_n (by omega)]; first | assumption | exact up_s | (rw [up_n (by omega)]; first | assumption | exact up_s | (rw [up_n (by omega)]; first | assumption | exact up_s | (rw [up_n (by omega)]; first | assumption | exact up_s)))))) rfl 5 (by decide) (hq _ q116 rfl) (fun _ h9 => h9) (by rfl) dX6_putIntoNewRow_77 ?_
        refine lv_iconst (v := 1) hx hb dX6_putIntoNewRow_80 (by decide) ?_
        refine lv_iadd hx hb dX6_putIntoNewRow_81 ?_
        rw [nI_1]
        refine k_put (ci := 8) (C := RX6) (T := TX6) (N := 11) (ty := tyX6 5) hx hb hts w_RX6 tyX6 tyX6_ok nmX6 hown hK hW hS (by first | assumption | exact up_s | (rw [up_n (by omega)]; first | assumption | exact up_s | (rw [up_n (by omega)]; first | assumption | exact up_s | (rw [up_n (by omega)]; first | assumption | exact up_s | (rw [up_n (by omega)]; first | assumption | exact up_s | (rw [up_n (by omega)]; first | assumption | exact up_s)))))) (by omega) rfl 5 (by decide) (hq _ q116 rfl) (fun _ h9 => h9) rfl (by decide +kernel) rfl rfl (by first | exact Nat.le_of_ble_eq_true rfl | (simp only [List.length_set]; exact Nat.le_of_ble_eq_true rfl)) dX6_putIntoNewRow_82 (fun H locs hW hS => ?_)
        refine lv_aload_n hx hb dX6_putIntoNewRow_85 rfl (hL.at 0 rfl) ?_
        refine lv_aload_n hx hb dX6_putIntoNewRow_86 rfl (hL.at 0 rfl) ?_
        refine k_get (ci := 8) (C := RX6) (T := TX6) (N := 11) hx hb hts w_RX6 hown hK hW (by first | assumption | exact up_s | (rw [up_n (by omega)]; first | assumption | exact up_s | (rw [up_n (by omega)]; first | assumption | exact up_s | (rw [up_n (by omega)]; first | assumption | exact up_s | (rw [up_n (by omega)]; first | assumption | exact up_s | (rw [up_n (by omega)]; first | assumption | exact up_s)))))) rfl 7 (by decide) (hq _ q120 rfl) (fun _ h9 => h9) (by rfl) dX6_putIntoNewRow_87 ?_
        refine lv_dload hx hb dX6_putIntoNewRow_90 (hL.at 5 rfl) ?_
        refine lv_dadd hx hb dX6_putIntoNewRow_92 hok.2.2 ?_
        refine k_put (ci := 8) (C := RX6) (T := TX6) (N := 11) (ty := tyX6 7) hx hb hts w_RX6 tyX6 tyX6_ok nmX6 hown hK hW hS (by first | assumption | exact up_s | (rw [up_n (by omega)]; first | assumption | exact up_s | (rw [up_n (by omega)]; first | assumption | exact up_s | (rw [up_n (by omega)]; first | assumption | exact up_s | (rw [up_n (by omega)]; first | assumption | exact up_s | (rw [up_n (by omega)]; first | assumption | exact up_s)))))) (by omega) rfl 7 (by decide) (hq _ q120 rfl) (fun _ h9 => h9) rfl (by decide +kernel) rfl rfl (by first | exact Nat.le_of_ble_eq_true rfl | (simp only [List.length_set]; exact Nat.le_of_ble_eq_true rfl)) dX6_putIntoNewRow_93 (fun H locs hW hS => ?_)
        refine lv_iconst (v := 1) hx hb dX6_putIntoNewRow_96 (by decide) ?_
        rw [hQ]
        exact k_zret hx hb hr hlocks rfl hW hS (by omega) (by omega) dX6_putIntoNewRow_97 (⟨rfl, (by repeat (first | assumption | exact kOut.rf | refine kOut.up ?_ (by omega) (by omega))), Or.inl ⟨_, fNew_some c6, rfl, ⟨(by first | assumption | exact up_s | (rw [up_n (by omega)]; first | assumption | exact up_s | (rw [up_n (by omega)]; first | assumption | exact up_s | (rw [up_n (by omega)]; first | assumption | exact up_s | (rw [up_n (by omega)]; first | assumption | exact up_s | (rw [up_n (by omega)]; first | assumption | exact up_s)))))), (by first | assumption | exact up_s | (rw [up_n (by omega)]; first | assumption | exact up_s | (rw [up_n (by omega)]; first | assumption | exact up_s | (rw [up_n (by omega)]; first | assumption | exact up_s | (rw [up_n (by omega)]; first | assumption | exact up_s | (rw [up_n (by omega)]; first | assumption | exact up_s)))))), (by first | assumption | exact up_s | (rw [up_n (by omega)]; first | assumption | exact up_s | (rw [up_n (by omega)]; first | assumption | exact up_s | (rw [up_n (by omega)]; first | assumption | exact up_s | (rw [up_n (by omega)]; first | assumption | exact up_s | (rw [up_n (by omega)]; first | assumption | exact up_s)))))), (by first | assumption | exact up_s | (rw [up_n (by omega)]; first | assumption | exact up_s | (rw [up_n (by omega)]; first | assumption | exact up_s | (rw [up_n (by omega)]; first | assumption | exact up_s | (rw [up_n (by omega)]; first | assumption | exact up_s | (rw [up_n (by omega)]; first | assumption | exact up_s)))))), (by first | assumption | exact up_s | (rw [up_n (by omega)]; first | assumption | exact up_s | (rw [up_n (by omega)]; first | assumption | exact up_s | (rw [up_n (by omega)]; first | assumption | exact up_s | (rw [up_n (by omega)]; first | assumption | exact up_s | (rw [up_n (by omega)]; first | assumption | exact up_s))))))⟩⟩⟩)
      · try dsimp only at c24
        have hz := nI_gt0 c24
        refine lv_dload_n hx hb dX6_putIntoNewRow_27 rfl (hL.at 3 rfl) ?_
        refine lv_aload_n hx hb dX6_putIntoNewRow_28 rfl (hL.at 0 rfl) ?_
        refine k_get (ci := 8) (C := RX6) (T := TX6) (N := 11) hx hb hts w_RX6 hown hK hW (by first | assumption | exact up_s | (rw [up_n (by omega)]; first | assumption | exact up_s | (rw [up_n (by omega)]; first | assumption | exact up_s | (rw [up_n (by omega)]; first | assumption | exact up_s | (rw [up_n (by omega)]; first | assumption | exact up_s | (rw [up_n (by omega)]; first | assumption | exact up_s)))))) rfl 10 (by decide) (hq _ q124 rfl) (fun _ h9 => h9) (by rfl) dX6_putIntoNewRow_29 ?_
        refine lv_i2d hx hb dX6_putIntoNewRow_32 ?_
        refine lv_ddiv hx hb dX6_putIntoNewRow_33 (hok.1 hz).1 ?_
        refine k_callSN (host := "TailorBench") hx hb hml hown hts hI hS hW hL.1 (c_nextWhole G _) (gT_in q403 rfl) (hq _ q401 rfl) (hq _ q55 rfl) (hq _ q402 rfl) (show kpar yX7_nextWhole 1 from ⟨by decide, by decide, by decide +kernel⟩) ⟨by decide, by decide⟩ (by show _ ≤ (0 : Nat); omega) (by show _ ≤ (0 : Nat); omega) rfl (by decide) dX6_putIntoNewRow_34 (fun v ad34 ct34 H locs hp hW hS => ?_)
        obtain ⟨rfl, h1, h2⟩ := hp
        rw [h1, h2] at hW
        refine lv_aload_n hx hb dX6_putIntoNewRow_37 rfl (hL.at 0 rfl) ?_
        refine k_get (ci := 8) (C := RX6) (T := TX6) (N := 11) hx hb hts w_RX6 hown hK hW (by first | assumption | exact up_s | (rw [up_n (by omega)]; first | assumption | exact up_s | (rw [up_n (by omega)]; first | assumption | exact up_s | (rw [up_n (by omega)]; first | assumption | exact up_s | (rw [up_n (by omega)]; first | assumption | exact up_s | (rw [up_n (by omega)]; first | assumption | exact up_s)))))) rfl 10 (by decide) (hq _ q124 rfl) (fun _ h9 => h9) (by rfl) dX6_putIntoNewRow_38 ?_
        refine lv_i2d hx hb dX6_putIntoNewRow_41 ?_
        refine lv_dmul hx hb dX6_putIntoNewRow_42 (hok.1 hz).2 ?_
        refine lv_topd (fun r hr0 => ?_)
        have hr1 := hr0.trans (fRaise_pos hz)
        subst hr1
        refine lv_goto (tgt := 47) hx hb dX6_putIntoNewRow_43 (by decide) ?_
        refine k_dst hx hb hL (i := 5) (by decide) dX6_putIntoNewRow_47 (fun ls hL => ?_)
        refine lv_aload_n hx hb dX6_putIntoNewRow_49 rfl (hL.at 0 rfl) ?_
        refine k_get (ci := 8) (C := RX6) (T := TX6) (N := 11) hx hb hts w_RX6 hown hK hW (by first | assumption | exact up_s | (rw [up_n (by omega)]; first | assumption | exact up_s | (rw [up_n (by omega)]; first | assumption | exact up_s | (rw [up_n (by omega)]; first | assumption | exact up_s | (rw [up_n (by omega)]; first | assumption | exact up_s | (rw [up_n (by omega)]; first | assumption | exact up_s)))))) rfl 2 (by decide) (hq _ q112 rfl) (fun _ h9 => h9) (by rfl) dX6_putIntoNewRow_50 ?_
        refine lv_aload_n hx hb dX6_putIntoNewRow_53 rfl (hL.at 0 rfl) ?_
        refine k_get (ci := 8) (C := RX6) (T := TX6) (N := 11) hx hb hts w_RX6 hown hK hW (by first | assumption | exact up_s | (rw [up_n (by omega)]; first | assumption | exact up_s | (rw [up_n (by omega)]; first | assumption | exact up_s | (rw [up_n (by omega)]; first | assumption | exact up_s | (rw [up_n (by omega)]; first | assumption | exact up_s | (rw [up_n (by omega)]; first | assumption | exact up_s)))))) rfl 5 (by decide) (hq _ q116 rfl) (fun _ h9 => h9) (by rfl) dX6_putIntoNewRow_54 ?_
        refine lv_dload hx hb dX6_putIntoNewRow_57 (hL.at 5 rfl) ?_
        refine k_dast hx hb hK hW hS (by first | assumption | exact up_s | (rw [up_n (by omega)]; first | assumption | exact up_s | (rw [up_n (by omega)]; first | assumption | exact up_s | (rw [up_n (by omega)]; first | assumption | exact up_s | (rw [up_n (by omega)]; first | assumption | exact up_s | (rw [up_n (by omega)]; first | assumption | exact up_s)))))) (by omega) _ (by omega) (by omega) rfl dX6_putIntoNewRow_59 (fun H locs hW hS => ?_)
        refine lv_aload_n hx hb dX6_putIntoNewRow_60 rfl (hL.at 0 rfl) ?_
        refine k_get (ci := 8) (C := RX6) (T := TX6) (N := 11) hx hb hts w_RX6 hown hK hW (by first | assumption | exact up_s | (rw [up_n (by omega)]; first | assumption | exact up_s | (rw [up_n (by omega)]; first | assumption | exact up_s | (rw [up_n (by omega)]; first | assumption | exact up_s | (rw [up_n (by omega)]; first | assumption | exact up_s | (rw [up_n (by omega)]; first | assumption | exact up_s)))))) rfl 3 (by decide) (hq _ q113 rfl) (fun _ h9 => h9) (by rfl) dX6_putIntoNewRow_61 ?_
        refine lv_aload_n hx hb dX6_putIntoNewRow_64 rfl (hL.at 0 rfl) ?_
        refine k_get (ci := 8) (C := RX6) (T := TX6) (N := 11) hx hb hts w_RX6 hown hK hW (by first | assumption | exact up_s | (rw [up_n (by omega)]; first | assumption | exact up_s | (rw [up_n (by omega)]; first | assumption | exact up_s | (rw [up_n (by omega)]; first | assumption | exact up_s | (rw [up_n (by omega)]; first | assumption | exact up_s | (rw [up_n (by omega)]; first | assumption | exact up_s)))))) rfl 5 (by decide) (hq _ q116 rfl) (fun _ h9 => h9) (by rfl) dX6_putIntoNewRow_65 ?_
        refine lv_aload_n hx hb dX6_putIntoNewRow_68 rfl (hL.at 0 rfl) ?_
        refine k_get (ci := 8) (C := RX6) (T := TX6) (N := 11) hx hb hts w_RX6 hown hK hW (by first | assumption | exact up_s | (rw [up_n (by omega)]; first | assumption | exact up_s | (rw [up_n (by omega)]; first | assumption | exact up_s | (rw [up_n (by omega)]; first | assumption | exact up_s | (rw [up_n (by omega)]; first | assumption | exact up_s | (rw [up_n (by omega)]; first | assumption | exact up_s)))))) rfl 9 (by decide) (hq _ q123 rfl) (fun _ h9 => h9) (by rfl) dX6_putIntoNewRow_69 ?_
        refine lv_dload_n hx hb dX6_putIntoNewRow_72 rfl (hL.at 1 rfl) ?_
        refine lv_dsub hx hb dX6_putIntoNewRow_73 hok.2.1 ?_
        refine k_dast hx hb hK hW hS (by first | assumption | exact up_s | (rw [up_n (by omega)]; first | assumption | exact up_s | (rw [up_n (by omega)]; first | assumption | exact up_s | (rw [up_n (by omega)]; first | assumption | exact up_s | (rw [up_n (by omega)]; first | assumption | exact up_s | (rw [up_n (by omega)]; first | assumption | exact up_s)))))) (by omega) _ (by omega) (by omega) rfl dX6_putIntoNewRow_74 (fun H locs hW hS => ?_)
        refine lv_aload_n hx hb dX6_putIntoNewRow_75 rfl (hL.at 0 rfl) ?_
        refine lv_dup hx hb dX6_putIntoNewRow_76 rfl ?_
        refine k_get (ci := 8) (C := RX6) (T := TX6) (N := 11) hx hb hts w_RX6 hown hK hW (by first | assumption | exact up_s | (rw [up_n (by omega)]; first | assumption | exact up_s | (rw [up_n (by omega)]; first | assumption | exact up_s | (rw [up_n (by omega)]; first | assumption | exact up_s | (rw [up_n (by omega)]; first | assumption | exact up_s | (rw [up_n (by omega)]; first | assumption | exact up_s)))))) rfl 5 (by decide) (hq _ q116 rfl) (fun _ h9 => h9) (by rfl) dX6_putIntoNewRow_77 ?_
        refine lv_iconst (v := 1) hx hb dX6_putIntoNewRow_80 (by decide) ?_
        refine lv_iadd hx hb dX6_putIntoNewRow_81 ?_
        rw [nI_1]
        refine k_put (ci := 8) (C := RX6) (T := TX6) (N := 11) (ty := tyX6 5) hx hb hts w_RX6 tyX6 tyX6_ok nmX6 hown hK hW hS (by first | assumption | exact up_s | (rw [up_n (by omega)]; first | assumption | exact up_s | (rw [up_n (by omega)]; first | assumption | exact up_s | (rw [up_n (by omega)]; first | assumption | exact up_s | (rw [up_n (by omega)]; first | assumption | exact up_s | (rw [up_n (by omega)]; first | assumption | exact up_s)))))) (by omega) rfl 5 (by decide) (hq _ q116 rfl) (fun _ h9 => h9) rfl (by decide +kernel) rfl rfl (by first | exact Nat.le_of_ble_eq_true rfl | (simp only [List.length_set]; exact Nat.le_of_ble_eq_true rfl)) dX6_putIntoNewRow_82 (fun H locs hW hS => ?_)
        refine lv_aload_n hx hb dX6_putIntoNewRow_85 rfl (hL.at 0 rfl) ?_
        refine lv_aload_n hx hb dX6_putIntoNewRow_86 rfl (hL.at 0 rfl) ?_
        refine k_get (ci := 8) (C := RX6) (T := TX6) (N := 11) hx hb hts w_RX6 hown hK hW (by first | assumption | exact up_s | (rw [up_n (by omega)]; first | assumption | exact up_s | (rw [up_n (by omega)]; first | assumption | exact up_s | (rw [up_n (by omega)]; first | assumption | exact up_s | (rw [up_n (by omega)]; first | assumption | exact up_s | (rw [up_n (by omega)]; first | assumption | exact up_s)))))) rfl 7 (by decide) (hq _ q120 rfl) (fun _ h9 => h9) (by rfl) dX6_putIntoNewRow_87 ?_
        refine lv_dload hx hb dX6_putIntoNewRow_90 (hL.at 5 rfl) ?_
        refine lv_dadd hx hb dX6_putIntoNewRow_92 hok.2.2 ?_
        refine k_put (ci := 8) (C := RX6) (T := TX6) (N := 11) (ty := tyX6 7) hx hb hts w_RX6 tyX6 tyX6_ok nmX6 hown hK hW hS (by first | assumption | exact up_s | (rw [up_n (by omega)]; first | assumption | exact up_s | (rw [up_n (by omega)]; first | assumption | exact up_s | (rw [up_n (by omega)]; first | assumption | exact up_s | (rw [up_n (by omega)]; first | assumption | exact up_s | (rw [up_n (by omega)]; first | assumption | exact up_s)))))) (by omega) rfl 7 (by decide) (hq _ q120 rfl) (fun _ h9 => h9) rfl (by decide +kernel) rfl rfl (by first | exact Nat.le_of_ble_eq_true rfl | (simp only [List.length_set]; exact Nat.le_of_ble_eq_true rfl)) dX6_putIntoNewRow_93 (fun H locs hW hS => ?_)
        refine lv_iconst (v := 1) hx hb dX6_putIntoNewRow_96 (by decide) ?_
        rw [hQ]
        exact k_zret hx hb hr hlocks rfl hW hS (by omega) (by omega) dX6_putIntoNewRow_97 (⟨rfl, (by repeat (first | assumption | exact kOut.rf | refine kOut.up ?_ (by omega) (by omega))), Or.inl ⟨_, fNew_some c6, rfl, ⟨(by first | assumption | exact up_s | (rw [up_n (by omega)]; first | assumption | exact up_s | (rw [up_n (by omega)]; first | assumption | exact up_s | (rw [up_n (by omega)]; first | assumption | exact up_s | (rw [up_n (by omega)]; first | assumption | exact up_s | (rw [up_n (by omega)]; first | assumption | exact up_s)))))), (by first | assumption | exact up_s | (rw [up_n (by omega)]; first | assumption | exact up_s | (rw [up_n (by omega)]; first | assumption | exact up_s | (rw [up_n (by omega)]; first | assumption | exact up_s | (rw [up_n (by omega)]; first | assumption | exact up_s | (rw [up_n (by omega)]; first | assumption | exact up_s)))))), (by first | assumption | exact up_s | (rw [up_n (by omega)]; first | assumption | exact up_s | (rw [up_n (by omega)]; first | assumption | exact up_s | (rw [up_n (by omega)]; first | assumption | exact up_s | (rw [up_n (by omega)]; first | assumption | exact up_s | (rw [up_n (by omega)]; first | assumption | exact up_s)))))), (by first | assumption | exact up_s | (rw [up_n (by omega)]; first | assumption | exact up_s | (rw [up_n (by omega)]; first | assumption | exact up_s | (rw [up_n (by omega)]; first | assumption | exact up_s | (rw [up_n (by omega)]; first | assumption | exact up_s | (rw [up_n (by omega)]; first | assumption | exact up_s)))))), (by first | assumption | exact up_s | (rw [up_n (by omega)]; first | assumption | exact up_s | (rw [up_n (by omega)]; first | assumption | exact up_s | (rw [up_n (by omega)]; first | assumption | exact up_s | (rw [up_n (by omega)]; first | assumption | exact up_s | (rw [up_n (by omega)]; first | assumption | exact up_s))))))⟩⟩⟩)
    · try dsimp only at c15
      exact absurd (nI_lt (b := 40) hrows (by decide)) c15

set_option maxHeartbeats 4000000 in
set_option maxRecDepth 100000 in
/-- TailorBench$Table.put  -/
theorem c_put {l : Launch} {D : va_G} {cy : Nat → ClassId} {sad : Nat → Nat} {em : Nat} {s0 : State} {a0 : Array Value} (G : kG kSTR l D cy sad em s0 a0) {ad : Nat → Nat} {ct : Nat → Option va_E} {n : Nat} {cov wd : UInt64} {sp : Nat} {fl fw : Nat → UInt64} {ls0 : tLs} (hT : RepL cy ad ct n cov wd sp fl fw ls0) (w t : UInt64) (bt : Bool) (hsp : sp ≤ 20) (hok : okPut wd sp ls0 w t) :
    KM l yX6_put [.code yX6_put prog_8_method_7_code 6 (some .boolean)] 2 56 0 0 [.ref (ad 7), .double w, .double t, .int (if bt then 1 else 0)] D s0 ad ct (fun v ad' ct' => ad' = ad ∧ kOut ct ct' ∧ kOpt cy ad ct' n cov wd sp fl fw ls0 (fPut wd sp bt ls0 w t) v) := by
  refine KM.of G (by decide) (Nat.le_of_ble_eq_true rfl) (Nat.le_of_ble_eq_true rfl) ?_
  intro p e s m args below meth c ls Q hQ X hin hL hW hS
  obtain ⟨hx, hb, hr, hml, hown, hlocks, hts, hq, hK, hI⟩ := X
  obtain ⟨t7, t8, t9, t10, t11⟩ := id hT
  obtain ⟨hrw, hi1, hi2, hn1, hn2⟩ := hok
  refine lv_aload_n hx hb dX6_put_0 rfl (hL.at 0 rfl) ?_
  refine lv_dload_n hx hb dX6_put_1 rfl (hL.at 1 rfl) ?_
  refine lv_dload_n hx hb dX6_put_2 rfl (hL.at 3 rfl) ?_
  refine k_callV (q := (RX6, TX6, 11)) hx hb hml hown hts hK hI hS hW hL.1 (by first | assumption | exact up_s | (rw [up_n (by omega)]; first | assumption | exact up_s | (rw [up_n (by omega)]; first | assumption | exact up_s | (rw [up_n (by omega)]; first | assumption | exact up_s | (rw [up_n (by omega)]; first | assumption | exact up_s | (rw [up_n (by omega)]; first | assumption | exact up_s)))))) rfl (c_intoRow G hT w t (by omega) hi1) (m5 (gT_in q393 rfl) (gT_in q395 rfl) (gT_in q14 rfl) (gT_in q56 rfl) (gT_in q396 rfl)) rfl (show kpar yX6_putIntoRow 2 from ⟨by decide, by decide, by decide +kernel⟩) ⟨by decide, by decide⟩ (by show _ ≤ (0 : Nat); omega) (by show _ ≤ (0 : Nat); omega) rfl (by decide) dX6_put_3 (fun v ad3 ct3 H locs hp hW hS => ?_)
  obtain ⟨h1, hk3, hc3⟩ := hp
  rw [h1] at hW
  rcases hc3 with ⟨s3, e3, rfl, hT3⟩ | ⟨e3, rfl, hT3⟩
  · obtain ⟨t7, t8, t9, t10, t11⟩ := id hT3
    refine lv_if_eq (tgt := 11) hx hb dX6_put_6 (by decide) (fun c6 => ?_) (fun c6 => ?_)
    · try dsimp only at c6
      exact absurd c6 (by decide)
    · try dsimp only at c6
      refine lv_iconst (v := 1) hx hb dX6_put_9 (by decide) ?_
      rw [hQ]
      exact k_zret hx hb hr hlocks rfl hW hS (by omega) (by omega) dX6_put_10 (⟨rfl, hk3, Or.inl ⟨_, fPut_1 e3, rfl, hT3⟩⟩)
  · obtain ⟨t7, t8, t9, t10, t11⟩ := id hT3
    refine lv_if_eq (tgt := 11) hx hb dX6_put_6 (by decide) (fun c6 => ?_) (fun c6 => ?_)
    · try dsimp only at c6
      refine lv_iload hx hb dX6_put_11 (hL.at 5 rfl) ?_
      refine lv_if_eq (tgt := 37) hx hb dX6_put_13 (by decide) (fun c13 => ?_) (fun c13 => ?_)
      · try dsimp only at c13
        have hbt : bt = false := by cases bt <;> first | rfl | exact absurd c13 (by decide)
        subst hbt
        refine lv_aload_n hx hb dX6_put_37 rfl (hL.at 0 rfl) ?_
        refine lv_dload_n hx hb dX6_put_38 rfl (hL.at 1 rfl) ?_
        refine lv_dload_n hx hb dX6_put_39 rfl (hL.at 3 rfl) ?_
        refine k_callV (q := (RX6, TX6, 11)) hx hb hml hown hts hK hI hS hW hL.1 (by first | assumption | exact up_s | (rw [up_n (by omega)]; first | assumption | exact up_s | (rw [up_n (by omega)]; first | assumption | exact up_s | (rw [up_n (by omega)]; first | assumption | exact up_s | (rw [up_n (by omega)]; first | assumption | exact up_s | (rw [up_n (by omega)]; first | assumption | exact up_s)))))) rfl (c_newRow G (ls0 := ls0) (by first | exact hT19 | exact hT3) w t hrw hsp hn1) (m5 (gT_in q397 rfl) (gT_in q399 rfl) (gT_in q15 rfl) (gT_in q56 rfl) (gT_in q400 rfl)) rfl (show kpar yX6_putIntoNewRow 2 from ⟨by decide, by decide, by decide +kernel⟩) ⟨by decide, by decide⟩ (by show _ ≤ (0 : Nat); omega) (by show _ ≤ (0 : Nat); omega) rfl (by decide) dX6_put_40 (fun v ad40 ct40 H locs hp hW hS => ?_)
        obtain ⟨h1, hk40, hc40⟩ := hp
        rw [h1] at hW
        rcases hc40 with ⟨s40, e40, rfl, hT40⟩ | ⟨e40, rfl, hT40⟩
        · obtain ⟨t7, t8, t9, t10, t11⟩ := id hT40
          refine lv_if_eq (tgt := 48) hx hb dX6_put_43 (by decide) (fun c43 => ?_) (fun c43 => ?_)
          · try dsimp only at c43
            exact absurd c43 (by decide)
          · try dsimp only at c43
            refine lv_iconst (v := 1) hx hb dX6_put_46 (by decide) ?_
            rw [hQ]
            exact k_zret hx hb hr hlocks rfl hW hS (by omega) (by omega) dX6_put_47 (⟨rfl, by first | exact (hk3.tr hk19).tr hk40 | exact hk3.tr hk40, Or.inl ⟨_, by first | exact (fPut_3 e3 e19).trans (fPutN_1 e40) | exact (fPut_4 e3).trans (fPutN_1 e40), rfl, hT40⟩⟩)
        · obtain ⟨t7, t8, t9, t10, t11⟩ := id hT40
          refine lv_if_eq (tgt := 48) hx hb dX6_put_43 (by decide) (fun c43 => ?_) (fun c43 => ?_)
          · try dsimp only at c43
            refine lv_iload hx hb dX6_put_48 (hL.at 5 rfl) ?_
            refine lv_if_eq (tgt := 74) hx hb dX6_put_50 (by decide) (fun c50 => ?_) (fun c50 => ?_)
            · try dsimp only at c50
              refine lv_iconst (v := 0) hx hb dX6_put_74 (by decide) ?_
              rw [hQ]
              exact k_zret hx hb hr hlocks rfl hW hS (by omega) (by omega) dX6_put_75 (⟨rfl, by first | exact ((hk3.tr hk19).tr hk40).tr hk56 | exact (hk3.tr hk40).tr hk56 | exact (hk3.tr hk19).tr hk40 | exact hk3.tr hk40, Or.inr ⟨by first | exact (fPut_3 e3 e19).trans (fPutN_3 e40 e56) | exact (fPut_4 e3).trans (fPutN_4 e40), rfl, by first | exact hT56 | exact hT40⟩⟩)
            · try dsimp only at c50
              exact absurd c50 (by decide)
          · try dsimp only at c43
            exact absurd c43 (by decide)
      · try dsimp only at c13
        have hbt : bt = true := by cases bt <;> first | rfl | exact absurd rfl c13
        subst hbt
        refine lv_aload_n hx hb dX6_put_16 rfl (hL.at 0 rfl) ?_
        refine lv_dload_n hx hb dX6_put_17 rfl (hL.at 3 rfl) ?_
        refine lv_dload_n hx hb dX6_put_18 rfl (hL.at 1 rfl) ?_
        refine k_callV (q := (RX6, TX6, 11)) hx hb hml hown hts hK hI hS hW hL.1 (by first | assumption | exact up_s | (rw [up_n (by omega)]; first | assumption | exact up_s | (rw [up_n (by omega)]; first | assumption | exact up_s | (rw [up_n (by omega)]; first | assumption | exact up_s | (rw [up_n (by omega)]; first | assumption | exact up_s | (rw [up_n (by omega)]; first | assumption | exact up_s)))))) rfl (c_intoRow G hT3 t w (by omega) hi2) (m5 (gT_in q393 rfl) (gT_in q395 rfl) (gT_in q14 rfl) (gT_in q56 rfl) (gT_in q396 rfl)) rfl (show kpar yX6_putIntoRow 2 from ⟨by decide, by decide, by decide +kernel⟩) ⟨by decide, by decide⟩ (by show _ ≤ (0 : Nat); omega) (by show _ ≤ (0 : Nat); omega) rfl (by decide) dX6_put_19 (fun v ad19 ct19 H locs hp hW hS => ?_)
        obtain ⟨h1, hk19, hc19⟩ := hp
        rw [h1] at hW
        rcases hc19 with ⟨s19, e19, rfl, hT19⟩ | ⟨e19, rfl, hT19⟩
        · obtain ⟨t7, t8, t9, t10, t11⟩ := id hT19
          refine lv_if_eq (tgt := 37) hx hb dX6_put_22 (by decide) (fun c22 => ?_) (fun c22 => ?_)
          · try dsimp only at c22
            exact absurd c22 (by decide)
          · try dsimp only at c22
            refine lv_aload_n hx hb dX6_put_25 rfl (hL.at 0 rfl) ?_
            refine lv_dup hx hb dX6_put_26 rfl ?_
            refine k_get (ci := 8) (C := RX6) (T := TX6) (N := 11) hx hb hts w_RX6 hown hK hW (by first | assumption | exact up_s | (rw [up_n (by omega)]; first | assumption | exact up_s | (rw [up_n (by omega)]; first | assumption | exact up_s | (rw [up_n (by omega)]; first | assumption | exact up_s | (rw [up_n (by omega)]; first | assumption | exact up_s | (rw [up_n (by omega)]; first | assumption | exact up_s)))))) rfl 6 (by decide) (hq _ q118 rfl) (fun _ h9 => h9) (by rfl) dX6_put_27 ?_
            refine lv_iconst (v := 1) hx hb dX6_put_30 (by decide) ?_
            refine lv_iadd hx hb dX6_put_31 ?_
            rw [nI_1]
            refine k_put (ci := 8) (C := RX6) (T := TX6) (N := 11) (ty := tyX6 6) hx hb hts w_RX6 tyX6 tyX6_ok nmX6 hown hK hW hS (by first | assumption | exact up_s | (rw [up_n (by omega)]; first | assumption | exact up_s | (rw [up_n (by omega)]; first | assumption | exact up_s | (rw [up_n (by omega)]; first | assumption | exact up_s | (rw [up_n (by omega)]; first | assumption | exact up_s | (rw [up_n (by omega)]; first | assumption | exact up_s)))))) (by omega) rfl 6 (by decide) (hq _ q118 rfl) (fun _ h9 => h9) rfl (by decide +kernel) rfl rfl (by first | exact Nat.le_of_ble_eq_true rfl | (simp only [List.length_set]; exact Nat.le_of_ble_eq_true rfl)) dX6_put_32 (fun H locs hW hS => ?_)
            refine lv_iconst (v := 1) hx hb dX6_put_35 (by decide) ?_
            rw [hQ]
            exact k_zret hx hb hr hlocks rfl hW hS (by omega) (by omega) dX6_put_36 (⟨rfl, (hk3.tr hk19).up (by omega) (by omega), Or.inl ⟨_, fPut_2 e3 e19, rfl, ⟨(by first | assumption | exact up_s | (rw [up_n (by omega)]; first | assumption | exact up_s | (rw [up_n (by omega)]; first | assumption | exact up_s | (rw [up_n (by omega)]; first | assumption | exact up_s | (rw [up_n (by omega)]; first | assumption | exact up_s | (rw [up_n (by omega)]; first | assumption | exact up_s)))))), (by first | assumption | exact up_s | (rw [up_n (by omega)]; first | assumption | exact up_s | (rw [up_n (by omega)]; first | assumption | exact up_s | (rw [up_n (by omega)]; first | assumption | exact up_s | (rw [up_n (by omega)]; first | assumption | exact up_s | (rw [up_n (by omega)]; first | assumption | exact up_s)))))), (by first | assumption | exact up_s | (rw [up_n (by omega)]; first | assumption | exact up_s | (rw [up_n (by omega)]; first | assumption | exact up_s | (rw [up_n (by omega)]; first | assumption | exact up_s | (rw [up_n (by omega)]; first | assumption | exact up_s | (rw [up_n (by omega)]; first | assumption | exact up_s)))))), (by first | assumption | exact up_s | (rw [up_n (by omega)]; first | assumption | exact up_s | (rw [up_n (by omega)]; first | assumption | exact up_s | (rw [up_n (by omega)]; first | assumption | exact up_s | (rw [up_n (by omega)]; first | assumption | exact up_s | (rw [up_n (by omega)]; first | assumption | exact up_s)))))), (by first | assumption | exact up_s | (rw [up_n (by omega)]; first | assumption | exact up_s | (rw [up_n (by omega)]; first | assumption | exact up_s | (rw [up_n (by omega)]; first | assumption | exact up_s | (rw [up_n (by omega)]; first | assumption | exact up_s | (rw [up_n (by omega)]; first | assumption | exact up_s))))))⟩⟩⟩)
        · obtain ⟨t7, t8, t9, t10, t11⟩ := id hT19
          refine lv_if_eq (tgt := 37) hx hb dX6_put_22 (by decide) (fun c22 => ?_) (fun c22 => ?_)
          · try dsimp only at c22
            refine lv_aload_n hx hb dX6_put_37 rfl (hL.at 0 rfl) ?_
            refine lv_dload_n hx hb dX6_put_38 rfl (hL.at 1 rfl) ?_
            refine lv_dload_n hx hb dX6_put_39 rfl (hL.at 3 rfl) ?_
            refine k_callV (q := (RX6, TX6, 11)) hx hb hml hown hts hK hI hS hW hL.1 (by first | assumption | exact up_s | (rw [up_n (by omega)]; first | assumption | exact up_s | (rw [up_n (by omega)]; first | assumption | exact up_s | (rw [up_n (by omega)]; first | assumption | exact up_s | (rw [up_n (by omega)]; first | assumption | exact up_s | (rw [up_n (by omega)]; first | assumption | exact up_s)))))) rfl (c_newRow G (ls0 := ls0) (by first | exact hT19 | exact hT3) w t hrw hsp hn1) (m5 (gT_in q397 rfl) (gT_in q399 rfl) (gT_in q15 rfl) (gT_in q56 rfl) (gT_in q400 rfl)) rfl (show kpar yX6_putIntoNewRow 2 from ⟨by decide, by decide, by decide +kernel⟩) ⟨by decide, by decide⟩ (by show _ ≤ (0 : Nat); omega) (by show _ ≤ (0 : Nat); omega) rfl (by decide) dX6_put_40 (fun v ad40 ct40 H locs hp hW hS => ?_)
            obtain ⟨h1, hk40, hc40⟩ := hp
            rw [h1] at hW
            rcases hc40 with ⟨s40, e40, rfl, hT40⟩ | ⟨e40, rfl, hT40⟩
            · obtain ⟨t7, t8, t9, t10, t11⟩ := id hT40
              refine lv_if_eq (tgt := 48) hx hb dX6_put_43 (by decide) (fun c43 => ?_) (fun c43 => ?_)
              · try dsimp only at c43
                exact absurd c43 (by decide)
              · try dsimp only at c43
                refine lv_iconst (v := 1) hx hb dX6_put_46 (by decide) ?_
                rw [hQ]
                exact k_zret hx hb hr hlocks rfl hW hS (by omega) (by omega) dX6_put_47 (⟨rfl, by first | exact (hk3.tr hk19).tr hk40 | exact hk3.tr hk40, Or.inl ⟨_, by first | exact (fPut_3 e3 e19).trans (fPutN_1 e40) | exact (fPut_4 e3).trans (fPutN_1 e40), rfl, hT40⟩⟩)
            · obtain ⟨t7, t8, t9, t10, t11⟩ := id hT40
              refine lv_if_eq (tgt := 48) hx hb dX6_put_43 (by decide) (fun c43 => ?_) (fun c43 => ?_)
              · try dsimp only at c43
                refine lv_iload hx hb dX6_put_48 (hL.at 5 rfl) ?_
                refine lv_if_eq (tgt := 74) hx hb dX6_put_50 (by decide) (fun c50 => ?_) (fun c50 => ?_)
                · try dsimp only at c50
                  exact absurd c50 (by decide)
                · try dsimp only at c50
                  refine lv_aload_n hx hb dX6_put_53 rfl (hL.at 0 rfl) ?_
                  refine lv_dload_n hx hb dX6_put_54 rfl (hL.at 3 rfl) ?_
                  refine lv_dload_n hx hb dX6_put_55 rfl (hL.at 1 rfl) ?_
                  refine k_callV (q := (RX6, TX6, 11)) hx hb hml hown hts hK hI hS hW hL.1 (by first | assumption | exact up_s | (rw [up_n (by omega)]; first | assumption | exact up_s | (rw [up_n (by omega)]; first | assumption | exact up_s | (rw [up_n (by omega)]; first | assumption | exact up_s | (rw [up_n (by omega)]; first | assumption | exact up_s | (rw [up_n (by omega)]; first | assumption | exact up_s)))))) rfl (c_newRow G (ls0 := ls0) hT40 t w hrw hsp hn2) (m5 (gT_in q397 rfl) (gT_in q399 rfl) (gT_in q15 rfl) (gT_in q56 rfl) (gT_in q400 rfl)) rfl (show kpar yX6_putIntoNewRow 2 from ⟨by decide, by decide, by decide +kernel⟩) ⟨by decide, by decide⟩ (by show _ ≤ (0 : Nat); omega) (by show _ ≤ (0 : Nat); omega) rfl (by decide) dX6_put_56 (fun v ad56 ct56 H locs hp hW hS => ?_)
                  obtain ⟨h1, hk56, hc56⟩ := hp
                  rw [h1] at hW
                  rcases hc56 with ⟨s56, e56, rfl, hT56⟩ | ⟨e56, rfl, hT56⟩
                  · obtain ⟨t7, t8, t9, t10, t11⟩ := id hT56
                    refine lv_if_eq (tgt := 74) hx hb dX6_put_59 (by decide) (fun c59 => ?_) (fun c59 => ?_)
                    · try dsimp only at c59
                      exact absurd c59 (by decide)
                    · try dsimp only at c59
                      refine lv_aload_n hx hb dX6_put_62 rfl (hL.at 0 rfl) ?_
                      refine lv_dup hx hb dX6_put_63 rfl ?_
                      refine k_get (ci := 8) (C := RX6) (T := TX6) (N := 11) hx hb hts w_RX6 hown hK hW (by first | assumption | exact up_s | (rw [up_n (by omega)]; first | assumption | exact up_s | (rw [up_n (by omega)]; first | assumption | exact up_s | (rw [up_n (by omega)]; first | assumption | exact up_s | (rw [up_n (by omega)]; first | assumption | exact up_s | (rw [up_n (by omega)]; first | assumption | exact up_s)))))) rfl 6 (by decide) (hq _ q118 rfl) (fun _ h9 => h9) (by rfl) dX6_put_64 ?_
                      refine lv_iconst (v := 1) hx hb dX6_put_67 (by decide) ?_
                      refine lv_iadd hx hb dX6_put_68 ?_
                      rw [nI_1]
                      refine k_put (ci := 8) (C := RX6) (T := TX6) (N := 11) (ty := tyX6 6) hx hb hts w_RX6 tyX6 tyX6_ok nmX6 hown hK hW hS (by first | assumption | exact up_s | (rw [up_n (by omega)]; first | assumption | exact up_s | (rw [up_n (by omega)]; first | assumption | exact up_s | (rw [up_n (by omega)]; first | assumption | exact up_s | (rw [up_n (by omega)]; first | assumption | exact up_s | (rw [up_n (by omega)]; first | assumption | exact up_s)))))) (by omega) rfl 6 (by decide) (hq _ q118 rfl) (fun _ h9 => h9) rfl (by decide +kernel) rfl rfl (by first | exact Nat.le_of_ble_eq_true rfl | (simp only [List.length_set]; exact Nat.le_of_ble_eq_true rfl)) dX6_put_69 (fun H locs hW hS => ?_)
                      refine lv_iconst (v := 1) hx hb dX6_put_72 (by decide) ?_
                      rw [hQ]
                      exact k_zret hx hb hr hlocks rfl hW hS (by omega) (by omega) dX6_put_73 (⟨rfl, by first | exact (((hk3.tr hk19).tr hk40).tr hk56).up (by omega) (by omega) | exact ((hk3.tr hk40).tr hk56).up (by omega) (by omega), Or.inl ⟨_, (fPut_3 e3 e19).trans (fPutN_2 e40 e56), rfl, ⟨(by first | assumption | exact up_s | (rw [up_n (by omega)]; first | assumption | exact up_s | (rw [up_n (by omega)]; first | assumption | exact up_s | (rw [up_n (by omega)]; first | assumption | exact up_s | (rw [up_n (by omega)]; first | assumption | exact up_s | (rw [up_n (by omega)]; first | assumption | exact up_s)))))), (by first | assumption | exact up_s | (rw [up_n (by omega)]; first | assumption | exact up_s | (rw [up_n (by omega)]; first | assumption | exact up_s | (rw [up_n (by omega)]; first | assumption | exact up_s | (rw [up_n (by omega)]; first | assumption | exact up_s | (rw [up_n (by omega)]; first | assumption | exact up_s)))))), (by first | assumption | exact up_s | (rw [up_n (by omega)]; first | assumption | exact up_s | (rw [up_n (by omega)]; first | assumption | exact up_s | (rw [up_n (by omega)]; first | assumption | exact up_s | (rw [up_n (by omega)]; first | assumption | exact up_s | (rw [up_n (by omega)]; first | assumption | exact up_s)))))), (by first | assumption | exact up_s | (rw [up_n (by omega)]; first | assumption | exact up_s | (rw [up_n (by omega)]; first | assumption | exact up_s | (rw [up_n (by omega)]; first | assumption | exact up_s | (rw [up_n (by omega)]; first | assumption | exact up_s | (rw [up_n (by omega)]; first | assumption | exact up_s)))))), (by first | assumption | exact up_s | (rw [up_n (by omega)]; first | assumption | exact up_s | (rw [up_n (by omega)]; first | assumption | exact up_s | (rw [up_n (by omega)]; first | assumption | exact up_s | (rw [up_n (by omega)]; first | assumption | exact up_s | (rw [up_n (by omega)]; first | assumption | exact up_s))))))⟩⟩⟩)
                  · obtain ⟨t7, t8, t9, t10, t11⟩ := id hT56
                    refine lv_if_eq (tgt := 74) hx hb dX6_put_59 (by decide) (fun c59 => ?_) (fun c59 => ?_)
                    · try dsimp only at c59
                      refine lv_iconst (v := 0) hx hb dX6_put_74 (by decide) ?_
                      rw [hQ]
                      exact k_zret hx hb hr hlocks rfl hW hS (by omega) (by omega) dX6_put_75 (⟨rfl, by first | exact ((hk3.tr hk19).tr hk40).tr hk56 | exact (hk3.tr hk40).tr hk56 | exact (hk3.tr hk19).tr hk40 | exact hk3.tr hk40, Or.inr ⟨by first | exact (fPut_3 e3 e19).trans (fPutN_3 e40 e56) | exact (fPut_4 e3).trans (fPutN_4 e40), rfl, by first | exact hT56 | exact hT40⟩⟩)
                    · try dsimp only at c59
                      exact absurd c59 (by decide)
              · try dsimp only at c43
                exact absurd c43 (by decide)
          · try dsimp only at c22
            exact absurd c22 (by decide)
    · try dsimp only at c6
      exact absurd c6 (by decide)
