/-! what is drawn, what is ordered -/
abbrev kPart (x : Int32) : Prop := ∃ p, okPart p ∧ x = nI p
theorem np_iff (x : Int32) : ((x < 0 ∨ 38 < x) ∨ (x - x / 10 * 10 < 1 ∨ 8 < x - x / 10 * 10)) ↔ ¬ kPart x := by
  by_cases h0 : x < 0
  · exact ⟨fun _ z => by obtain ⟨p, hp, rfl⟩ := z; exact nI_pos (by have := hp.1; omega) h0, fun _ => Or.inl (Or.inl h0)⟩
  · obtain ⟨j, hj, rfl⟩ := nI_of h0
    rw [fI_rem10 hj]
    have a1 : (38 : Int32) < nI j ↔ 38 < j := nI_ltI (a := 38) (by decide) hj
    have a2 : nI (j % 10) < 1 ↔ j % 10 < 1 := nI_ltI (b := 1) (by omega) (by decide)
    have a3 : (8 : Int32) < nI (j % 10) ↔ 8 < j % 10 := nI_ltI (a := 8) (by decide) (by omega)
    rw [a1, a2, a3]
    constructor
    · rintro z ⟨p, ⟨hp1, hp2, hp3⟩, e⟩
      obtain rfl : j = p := (nI_eq hj (by omega)).mp e
      rcases z with (z | z) | z
      · exact h0 z
      · omega
      · omega
    · intro z
      by_cases q : (38 < j ∨ j % 10 < 1 ∨ 8 < j % 10)
      · rcases q with q | q | q
        · exact Or.inl (Or.inr q)
        · exact Or.inr (Or.inl q)
        · exact Or.inr (Or.inr q)
      · exact absurd ⟨j, ⟨by omega, by omega, by omega⟩, rfl⟩ z

set_option maxHeartbeats 8000000 in
set_option maxRecDepth 100000 in
/-- TailorBench.piece  -/
theorem c_piece {l : Launch} {D : va_G} {cy : Nat → ClassId} {sad : Nat → Nat} {em : Nat} {s0 : State} {a0 : Array Value} (G : kG kSTR l D cy sad em s0 a0) {ad : Nat → Nat} {ct : Nat → Option va_E} {M : tM} (hm : RepC cy ad ct M) (ho : okM M) (hf : FreeC ct M) (x1 x2 x3 x4 x5 : Int32) :
    KX l yX7_piece [.code yX7_piece prog_1_method_7_code 7 (some .int)] 7 120 2 12 [.ref (ad 1), .int x1, .int x2, .int x3, .int x4, .int x5] D s0 ad ct (fun v ad' ct' => ∃ i p1 p2 es cn : Nat, i < mS M ∧ x1 = nI i ∧ (okPart p1 ∧ x2 = nI p1) ∧ (okPart p2 ∧ x3 = nI p2) ∧ (es ≤ 40 ∧ x4 = nI es) ∧ (1 ≤ cn ∧ cn ≤ 4 ∧ x5 = nI cn) ∧ (mst M i).1 < 5 ∧ (mst M i).2.2 = 0 ∧ v = some (.int (nI ((mst M i).1 + 1))) ∧ (∀ j, j ≠ 40 + 5 * i + (mst M i).1 → ad' j = ad j) ∧ ct' (40 + 5 * i + (mst M i).1) = some (oPc (p1, p2, es, cn)) ∧ ct' (36 + i) = some (.inl (cy 9, 5, aQ (va_up (kqs ad (40 + 5 * i) (mst M i).1) (mst M i).1 (some (ad' (40 + 5 * i + (mst M i).1)))))) ∧ ct' (32 + i) = some (oSt ad i (zPc (mst M i) (p1, p2, es, cn))) ∧ ∀ j, j ≠ 32 + i → j ≠ 36 + i → j ≠ 40 + 5 * i + (mst M i).1 → ct' j = ct j) (fun E => (E = eIdx ∧ ¬ kIn x1 (mS M)) ∨ (E = eArg ∧ kIn x1 (mS M) ∧ (¬ kPart x2 ∨ ¬ kPart x3 ∨ (x4 < 0 ∨ 40 < x4) ∨ (x5 < 1 ∨ 4 < x5))) ∨ (E = eSta ∧ ∃ i, i < mS M ∧ x1 = nI i ∧ ¬ (¬ kPart x2 ∨ ¬ kPart x3 ∨ (x4 < 0 ∨ 40 < x4) ∨ (x5 < 1 ∨ 4 < x5)) ∧ ((mst M i).1 = 5 ∨ ¬ (mst M i).2.2 = 0))) := by
  refine KX.of G (by decide) (Nat.le_of_ble_eq_true rfl) (Nat.le_of_ble_eq_true rfl) ?_
  intro p e s m args below meth c ls Q hQ X hin hL hW hS
  obtain ⟨hx, hb, hr, hml, hown, hlocks, hts, hq, hK, hI⟩ := X
  have hbn := ho.1
  have hs1 := hm.1
  refine lv_aload_n hx hb dX7_piece_0 rfl (hL.at 0 rfl) ?_
  refine lv_iload_n hx hb dX7_piece_1 rfl (hL.at 1 rfl) ?_
  refine k_callVX (q := (RX7, TX7, 15)) hx hb hml hown hts hK hI hS hW hL.1 (by first | assumption | exact up_s | (rw [up_n (by omega)]; first | assumption | exact up_s | (rw [up_n (by omega)]; first | assumption | exact up_s | (rw [up_n (by omega)]; first | assumption | exact up_s | (rw [up_n (by omega)]; first | assumption | exact up_s | (rw [up_n (by omega)]; first | assumption | exact up_s | (rw [up_n (by omega)]; first | assumption | exact up_s | (rw [up_n (by omega)]; first | assumption | exact up_s | (rw [up_n (by omega)]; first | assumption | exact up_s | (rw [up_n (by omega)]; first | assumption | exact up_s | (rw [up_n (by omega)]; first | assumption | exact up_s | (rw [up_n (by omega)]; first | assumption | exact up_s)))))))))))) rfl (c_styleAt G hm ho x1) (m5 (gT_in q602 rfl) (gT_in q604 rfl) (gT_in q22 rfl) (gT_in q55 rfl) (gT_in q605 rfl)) rfl (show kpar yX7_styleAt 1 from ⟨by decide, by decide, by decide +kernel⟩) ⟨by decide, by decide⟩ (by show _ ≤ (2 : Nat); omega) (by show _ ≤ (12 : Nat); omega) rfl (by first | decide | exact Nat.le_of_ble_eq_true rfl) dX7_piece_2 (fun E ce q9 H locs hp hW hS hce hcv hcl => ?_) (fun v ad2 ct2 H locs hp hW hS => ?_)
  · rw [hQ]; exact k_out hown hlocks hin hW hS hce hcv hcl (by omega) (by omega) (Or.inl hp)
  obtain ⟨i, hi, hxi, rfl, h1, h2⟩ := hp
  rw [h1, h2] at hW
  refine k_ast hx hb hL (i := 6) (by decide) dX7_piece_5 (fun ls hL => ?_)
  have hST := hm.2.2.2.2.1 i hi
  have hSA := hm.2.2.2.2.2.1 i hi
  have ho5 := (ho.2.2.2.1 i hi).1
  refine lv_iload_n hx hb dX7_piece_7 rfl (hL.at 2 rfl) ?_
  refine k_callS hx hb hml hown hts hI hS hW hL.1 (c_isNoPart G x2) (m4 (gT_in q607 rfl) (gT_in q608 rfl) (gT_in q55 rfl) (gT_in q609 rfl)) (show kpar yX7_isNoPart 1 from ⟨by decide, by decide, by decide +kernel⟩) ⟨by decide, by decide⟩ (by show _ ≤ (2 : Nat); omega) (by show _ ≤ (12 : Nat); omega) rfl (by first | decide | exact Nat.le_of_ble_eq_true rfl) dX7_piece_8 (fun v ad8 ct8 H locs hp hW hS => ?_)
  obtain ⟨rfl, h1, h2⟩ := hp
  rw [h1, h2] at hW
  refine lv_if_ne (tgt := 42) hx hb dX7_piece_11 (by decide) (fun c11 => ?_) (fun c11 => ?_)
  · try simp only [b2_eq, Decidable.not_not] at c11
    try dsimp only at c11
    have hbad : ¬ kPart x2 ∨ ¬ kPart x3 ∨ (x4 < 0 ∨ 40 < x4) ∨ (x5 < 1 ∨ 4 < x5) := Or.inl ((np_iff _).mp (by first | exact c11 | exact Decidable.not_not.mp c11))
    rw [hQ]
    exact k_throw G hx hb hlocks (names := ["java/lang/RuntimeException", "java/lang/Exception"]) hown hts hq hI (by decide) (by decide) (gT_in q220 rfl) (gT_in q64 rfl) 15 rfl (fun w hw => hq w (at_54 w hw).1 (at_54 w hw).2) ot_54 hW hS (hL.1.trans hml.symm) hin dX7_piece_42 dX7_piece_45 dX7_piece_46 dX7_piece_48 dX7_piece_51 (by decide) (by decide) (by show _ ≤ (2 : Nat); omega) (by show _ ≤ (12 : Nat); omega) (by omega) (by omega) (by first | exact Or.inr (Or.inl ⟨rfl, ⟨i, hi, hxi⟩, hbad⟩) | exact Or.inr (Or.inr ⟨rfl, i, hi, hxi, fun z => z.elim (fun z => c11 ((np_iff _).mpr z)) (fun z => z.elim (fun z => c18 ((np_iff _).mpr z)) (fun z => z.elim c29 c39)), hrf⟩))
  · try simp only [b2_eq, Decidable.not_not] at c11
    try dsimp only at c11
    refine lv_iload_n hx hb dX7_piece_14 rfl (hL.at 3 rfl) ?_
    refine k_callS hx hb hml hown hts hI hS hW hL.1 (c_isNoPart G x3) (m4 (gT_in q607 rfl) (gT_in q608 rfl) (gT_in q55 rfl) (gT_in q609 rfl)) (show kpar yX7_isNoPart 1 from ⟨by decide, by decide, by decide +kernel⟩) ⟨by decide, by decide⟩ (by show _ ≤ (2 : Nat); omega) (by show _ ≤ (12 : Nat); omega) rfl (by first | decide | exact Nat.le_of_ble_eq_true rfl) dX7_piece_15 (fun v ad15 ct15 H locs hp hW hS => ?_)
    obtain ⟨rfl, h1, h2⟩ := hp
    rw [h1, h2] at hW
    refine lv_if_ne (tgt := 42) hx hb dX7_piece_18 (by decide) (fun c18 => ?_) (fun c18 => ?_)
    · try simp only [b2_eq, Decidable.not_not] at c18
      try dsimp only at c18
      have hbad : ¬ kPart x2 ∨ ¬ kPart x3 ∨ (x4 < 0 ∨ 40 < x4) ∨ (x5 < 1 ∨ 4 < x5) := Or.inr (Or.inl ((np_iff _).mp (by first | exact c18 | exact Decidable.not_not.mp c18)))
      rw [hQ]
      exact k_throw G hx hb hlocks (names := ["java/lang/RuntimeException", "java/lang/Exception"]) hown hts hq hI (by decide) (by decide) (gT_in q220 rfl) (gT_in q64 rfl) 15 rfl (fun w hw => hq w (at_54 w hw).1 (at_54 w hw).2) ot_54 hW hS (hL.1.trans hml.symm) hin dX7_piece_42 dX7_piece_45 dX7_piece_46 dX7_piece_48 dX7_piece_51 (by decide) (by decide) (by show _ ≤ (2 : Nat); omega) (by show _ ≤ (12 : Nat); omega) (by omega) (by omega) (by first | exact Or.inr (Or.inl ⟨rfl, ⟨i, hi, hxi⟩, hbad⟩) | exact Or.inr (Or.inr ⟨rfl, i, hi, hxi, fun z => z.elim (fun z => c11 ((np_iff _).mpr z)) (fun z => z.elim (fun z => c18 ((np_iff _).mpr z)) (fun z => z.elim c29 c39)), hrf⟩))
    · try simp only [b2_eq, Decidable.not_not] at c18
      try dsimp only at c18
      refine lv_iload hx hb dX7_piece_21 (hL.at 4 rfl) ?_
      refine lv_iconst (v := 0) hx hb dX7_piece_23 (by decide) ?_
      refine lv_bipush (v := 40) hx hb dX7_piece_24 (by decide) ?_
      refine k_callS hx hb hml hown hts hI hS hW hL.1 (c_isOutside G x4 0 40) (m4 (gT_in q421 rfl) (gT_in q422 rfl) (gT_in q55 rfl) (gT_in q423 rfl)) (show kpar yX7_isOutside 3 from ⟨by decide, by decide, by decide +kernel⟩) ⟨by decide, by decide⟩ (by show _ ≤ (2 : Nat); omega) (by show _ ≤ (12 : Nat); omega) rfl (by first | decide | exact Nat.le_of_ble_eq_true rfl) dX7_piece_26 (fun v ad26 ct26 H locs hp hW hS => ?_)
      obtain ⟨rfl, h1, h2⟩ := hp
      rw [h1, h2] at hW
      refine lv_if_ne (tgt := 42) hx hb dX7_piece_29 (by decide) (fun c29 => ?_) (fun c29 => ?_)
      · try simp only [b2_eq, Decidable.not_not] at c29
        try dsimp only at c29
        have hbad : ¬ kPart x2 ∨ ¬ kPart x3 ∨ (x4 < 0 ∨ 40 < x4) ∨ (x5 < 1 ∨ 4 < x5) := Or.inr (Or.inr (Or.inl (by first | exact c29 | exact Decidable.not_not.mp c29)))
        rw [hQ]
        exact k_throw G hx hb hlocks (names := ["java/lang/RuntimeException", "java/lang/Exception"]) hown hts hq hI (by decide) (by decide) (gT_in q220 rfl) (gT_in q64 rfl) 15 rfl (fun w hw => hq w (at_54 w hw).1 (at_54 w hw).2) ot_54 hW hS (hL.1.trans hml.symm) hin dX7_piece_42 dX7_piece_45 dX7_piece_46 dX7_piece_48 dX7_piece_51 (by decide) (by decide) (by show _ ≤ (2 : Nat); omega) (by show _ ≤ (12 : Nat); omega) (by omega) (by omega) (by first | exact Or.inr (Or.inl ⟨rfl, ⟨i, hi, hxi⟩, hbad⟩) | exact Or.inr (Or.inr ⟨rfl, i, hi, hxi, fun z => z.elim (fun z => c11 ((np_iff _).mpr z)) (fun z => z.elim (fun z => c18 ((np_iff _).mpr z)) (fun z => z.elim c29 c39)), hrf⟩))
      · try simp only [b2_eq, Decidable.not_not] at c29
        try dsimp only at c29
        refine lv_iload hx hb dX7_piece_32 (hL.at 5 rfl) ?_
        refine lv_iconst (v := 1) hx hb dX7_piece_34 (by decide) ?_
        refine lv_iconst (v := 4) hx hb dX7_piece_35 (by decide) ?_
        refine k_callS hx hb hml hown hts hI hS hW hL.1 (c_isOutside G x5 1 4) (m4 (gT_in q421 rfl) (gT_in q422 rfl) (gT_in q55 rfl) (gT_in q423 rfl)) (show kpar yX7_isOutside 3 from ⟨by decide, by decide, by decide +kernel⟩) ⟨by decide, by decide⟩ (by show _ ≤ (2 : Nat); omega) (by show _ ≤ (12 : Nat); omega) rfl (by first | decide | exact Nat.le_of_ble_eq_true rfl) dX7_piece_36 (fun v ad36 ct36 H locs hp hW hS => ?_)
        obtain ⟨rfl, h1, h2⟩ := hp
        rw [h1, h2] at hW
        refine lv_if_eq (tgt := 52) hx hb dX7_piece_39 (by decide) (fun c39 => ?_) (fun c39 => ?_)
        · try simp only [b2_eq, Decidable.not_not] at c39
          try dsimp only at c39
          refine lv_aload hx hb dX7_piece_52 (hL.at 6 rfl) ?_
          refine k_getN (ci := 7) (C := RX5) (T := TX5) (N := 5) hx hb hts w_RX5 hown hK hW (by first | assumption | exact up_s | (rw [up_n (by omega)]; first | assumption | exact up_s | (rw [up_n (by omega)]; first | assumption | exact up_s | (rw [up_n (by omega)]; first | assumption | exact up_s | (rw [up_n (by omega)]; first | assumption | exact up_s | (rw [up_n (by omega)]; first | assumption | exact up_s | (rw [up_n (by omega)]; first | assumption | exact up_s | (rw [up_n (by omega)]; first | assumption | exact up_s | (rw [up_n (by omega)]; first | assumption | exact up_s | (rw [up_n (by omega)]; first | assumption | exact up_s | (rw [up_n (by omega)]; first | assumption | exact up_s | (rw [up_n (by omega)]; first | assumption | exact up_s)))))))))))) rfl 2 (by decide) (hq _ q581 rfl) (fun _ h9 => h9) (by rfl) dX7_piece_54 ?_
          refine lv_iconst (v := 5) hx hb dX7_piece_57 (by decide) ?_
          refine lv_icmp_ge (tgt := 69) hx hb dX7_piece_58 (by decide) (fun c58 => ?_) (fun c58 => ?_)
          · try dsimp only at c58
            have hrf : (mst M i).1 = 5 ∨ ¬ (mst M i).2.2 = 0 := Or.inl (by
              have h9 : ¬ (mst M i).1 < 5 := fun z => absurd c58 (by rw [Int32.not_le]; exact nI_lt (b := 5) z (by decide))
              omega)
            rw [hQ]
            exact k_throw G hx hb hlocks (names := ["java/lang/RuntimeException", "java/lang/Exception"]) hown hts hq hI (by decide) (by decide) (gT_in q449 rfl) (gT_in q65 rfl) 16 rfl (fun w hw => hq w (at_65 w hw).1 (at_65 w hw).2) ot_65 hW hS (hL.1.trans hml.symm) hin dX7_piece_69 dX7_piece_72 dX7_piece_73 dX7_piece_75 dX7_piece_78 (by decide) (by decide) (by show _ ≤ (2 : Nat); omega) (by show _ ≤ (12 : Nat); omega) (by omega) (by omega) (by first | exact Or.inr (Or.inl ⟨rfl, ⟨i, hi, hxi⟩, hbad⟩) | exact Or.inr (Or.inr ⟨rfl, i, hi, hxi, fun z => z.elim (fun z => c11 ((np_iff _).mpr z)) (fun z => z.elim (fun z => c18 ((np_iff _).mpr z)) (fun z => z.elim c29 c39)), hrf⟩))
          · try dsimp only at c58
            have hlt : (mst M i).1 < 5 := by
              rcases Nat.lt_or_ge (mst M i).1 5 with q | q
              · exact q
              · exact absurd (nI_le (a := 5) q (by omega)) c58
            refine lv_aload hx hb dX7_piece_61 (hL.at 6 rfl) ?_
            refine k_getN (ci := 7) (C := RX5) (T := TX5) (N := 5) hx hb hts w_RX5 hown hK hW (by first | assumption | exact up_s | (rw [up_n (by omega)]; first | assumption | exact up_s | (rw [up_n (by omega)]; first | assumption | exact up_s | (rw [up_n (by omega)]; first | assumption | exact up_s | (rw [up_n (by omega)]; first | assumption | exact up_s | (rw [up_n (by omega)]; first | assumption | exact up_s | (rw [up_n (by omega)]; first | assumption | exact up_s | (rw [up_n (by omega)]; first | assumption | exact up_s | (rw [up_n (by omega)]; first | assumption | exact up_s | (rw [up_n (by omega)]; first | assumption | exact up_s | (rw [up_n (by omega)]; first | assumption | exact up_s | (rw [up_n (by omega)]; first | assumption | exact up_s)))))))))))) rfl 4 (by decide) (hq _ q583 rfl) (fun _ h9 => h9) (by rfl) dX7_piece_63 ?_
            refine lv_if_eq (tgt := 79) hx hb dX7_piece_66 (by decide) (fun c66 => ?_) (fun c66 => ?_)
            · try simp only [b2_eq, Decidable.not_not] at c66
              try dsimp only at c66
              
              have hpa : kPart x2 := Classical.not_not.mp (fun z => c11 ((np_iff _).mpr z))
              have hpb : kPart x3 := Classical.not_not.mp (fun z => c18 ((np_iff _).mpr z))
              obtain ⟨p1, hpo1, hxp1⟩ := hpa
              obtain ⟨p2, hpo2, hxp2⟩ := hpb
              obtain ⟨es, -, he2, hxe⟩ := kIn_btw (a := 0) (b := 40) c29 (by decide)
              obtain ⟨cn, hn1, hn2, hxn⟩ := kIn_btw (a := 1) (b := 4) c39 (by decide)
              have hfl : (mst M i).2.2 = 0 := by first | exact c66 | exact Decidable.not_not.mp c66
              subst hxp1
              subst hxp2
              subst hxe
              subst hxn
              refine lv_aload hx hb dX7_piece_79 (hL.at 6 rfl) ?_
              refine k_getN (ci := 7) (C := RX5) (T := TX5) (N := 5) hx hb hts w_RX5 hown hK hW (by first | assumption | exact up_s | (rw [up_n (by omega)]; first | assumption | exact up_s | (rw [up_n (by omega)]; first | assumption | exact up_s | (rw [up_n (by omega)]; first | assumption | exact up_s | (rw [up_n (by omega)]; first | assumption | exact up_s | (rw [up_n (by omega)]; first | assumption | exact up_s | (rw [up_n (by omega)]; first | assumption | exact up_s | (rw [up_n (by omega)]; first | assumption | exact up_s | (rw [up_n (by omega)]; first | assumption | exact up_s | (rw [up_n (by omega)]; first | assumption | exact up_s | (rw [up_n (by omega)]; first | assumption | exact up_s | (rw [up_n (by omega)]; first | assumption | exact up_s)))))))))))) rfl 1 (by decide) (hq _ q578 rfl) (fun _ h9 => h9) (by rfl) dX7_piece_81 ?_
              refine lv_aload hx hb dX7_piece_84 (hL.at 6 rfl) ?_
              refine k_getN (ci := 7) (C := RX5) (T := TX5) (N := 5) hx hb hts w_RX5 hown hK hW (by first | assumption | exact up_s | (rw [up_n (by omega)]; first | assumption | exact up_s | (rw [up_n (by omega)]; first | assumption | exact up_s | (rw [up_n (by omega)]; first | assumption | exact up_s | (rw [up_n (by omega)]; first | assumption | exact up_s | (rw [up_n (by omega)]; first | assumption | exact up_s | (rw [up_n (by omega)]; first | assumption | exact up_s | (rw [up_n (by omega)]; first | assumption | exact up_s | (rw [up_n (by omega)]; first | assumption | exact up_s | (rw [up_n (by omega)]; first | assumption | exact up_s | (rw [up_n (by omega)]; first | assumption | exact up_s | (rw [up_n (by omega)]; first | assumption | exact up_s)))))))))))) rfl 2 (by decide) (hq _ q581 rfl) (fun _ h9 => h9) (by rfl) dX7_piece_86 ?_
              refine k_new (ci := 6) (fs := [.int 0, .int 0, .double 0, .int 0]) (C := RX4) (T := TX4) (N := 4) hx hb hts w_RX4 tyX4 tyX4_ok hown (hq _ q612 rfl) (hq _ q343 rfl) (hq _ q77 rfl) hK hW hS hI.2.1 rfl (40 + 5 * i + (mst M i).1) (hf.2.2.2.1 i (by omega) (mst M i).1 (fun _ => Nat.le_refl _) hlt) (fun j hj => by rcases (show j = 0 ∨ j = 1 ∨ j = 2 ∨ j = 3 by omega) with rfl | rfl | rfl | rfl <;> rfl) (by show _ ≤ (2 : Nat); omega) (by show _ ≤ (12 : Nat); omega) dX7_piece_89 (fun q89 H hW hS => ?_)
              obtain ⟨ad1, hd89⟩ : ∃ z, z = upA ad (40 + 5 * i + (mst M i).1) q89 := ⟨_, rfl⟩
              rw [← hd89] at hW ⊢
              have hdk89 : ∀ j, j ≠ (40 + 5 * i + (mst M i).1) → ad1 j = ad j := fun j hj => by rw [hd89]; exact upA_n hj
              rw [← hdk89 1 (by omega)] at hL
              rw [← hdk89 (32 + i) (by omega)] at hL
              rw [← hdk89 (36 + i) (by omega)]
              refine lv_dup hx hb dX7_piece_92 rfl ?_
              refine lv_iload_n hx hb dX7_piece_93 rfl (hL.at 2 rfl) ?_
              refine lv_iload_n hx hb dX7_piece_94 rfl (hL.at 3 rfl) ?_
              refine lv_iload hx hb dX7_piece_95 (hL.at 4 rfl) ?_
              refine lv_i2d hx hb dX7_piece_97 ?_
              refine lv_ldc2d hx hb hown (hq _ q613 rfl) dX7_piece_98 ?_
              refine lv_ddiv hx hb dX7_piece_101 (vf_of (dP_ease he2).nn) ?_
              refine lv_iload hx hb dX7_piece_102 (hL.at 5 rfl) ?_
              refine k_callIN (host := "TailorBench") hx hb hml hown hts hI hS hW hL.1 (c_iPiece G (kz := 40 + 5 * i + (mst M i).1) (by omega) up_s _ _ _ _) (gT_in q616 rfl) (hq _ q614 rfl) (hq _ q77 rfl) (hq _ q615 rfl) rfl (show kpar yX4_init 4 from ⟨by decide, by decide, by decide +kernel⟩) ⟨by decide, by decide⟩ (by show _ ≤ (2 : Nat); omega) (by show _ ≤ (12 : Nat); omega) rfl (by first | decide | exact Nat.le_of_ble_eq_true rfl) dX7_piece_104 (fun v ad104 ct104 H locs hp hW hS => ?_)
              obtain ⟨rfl, h1, hv1, hr1⟩ := hp
              rw [h1] at hW
              have hs104 := (hr1 (32 + i) (by omega)).trans ((up_n (by omega)).trans hST)
              have ha104 := (hr1 (36 + i) (by omega)).trans ((up_n (by omega)).trans hSA)
              refine k_aast hx hb hK hW hS 9 (r := (RX4, TX4, 4)) (by first | assumption | exact up_s | (rw [up_n (by omega)]; first | assumption | exact up_s | (rw [up_n (by omega)]; first | assumption | exact up_s | (rw [up_n (by omega)]; first | assumption | exact up_s | (rw [up_n (by omega)]; first | assumption | exact up_s | (rw [up_n (by omega)]; first | assumption | exact up_s | (rw [up_n (by omega)]; first | assumption | exact up_s | (rw [up_n (by omega)]; first | assumption | exact up_s | (rw [up_n (by omega)]; first | assumption | exact up_s | (rw [up_n (by omega)]; first | assumption | exact up_s | (rw [up_n (by omega)]; first | assumption | exact up_s | (rw [up_n (by omega)]; first | assumption | exact up_s)))))))))))) (by omega) rfl (by first | assumption | exact up_s | (rw [up_n (by omega)]; first | assumption | exact up_s | (rw [up_n (by omega)]; first | assumption | exact up_s | (rw [up_n (by omega)]; first | assumption | exact up_s | (rw [up_n (by omega)]; first | assumption | exact up_s | (rw [up_n (by omega)]; first | assumption | exact up_s | (rw [up_n (by omega)]; first | assumption | exact up_s | (rw [up_n (by omega)]; first | assumption | exact up_s | (rw [up_n (by omega)]; first | assumption | exact up_s | (rw [up_n (by omega)]; first | assumption | exact up_s | (rw [up_n (by omega)]; first | assumption | exact up_s | (rw [up_n (by omega)]; first | assumption | exact up_s)))))))))))) rfl (mst M i).1 hlt (by omega) rfl dX7_piece_107 (fun H locs hW hS => ?_)
              refine lv_aload hx hb dX7_piece_108 (hL.at 6 rfl) ?_
              refine lv_dup hx hb dX7_piece_110 rfl ?_
              refine k_getN (ci := 7) (C := RX5) (T := TX5) (N := 5) hx hb hts w_RX5 hown hK hW (by first | assumption | exact up_s | (rw [up_n (by omega)]; first | assumption | exact up_s | (rw [up_n (by omega)]; first | assumption | exact up_s | (rw [up_n (by omega)]; first | assumption | exact up_s | (rw [up_n (by omega)]; first | assumption | exact up_s | (rw [up_n (by omega)]; first | assumption | exact up_s | (rw [up_n (by omega)]; first | assumption | exact up_s | (rw [up_n (by omega)]; first | assumption | exact up_s | (rw [up_n (by omega)]; first | assumption | exact up_s | (rw [up_n (by omega)]; first | assumption | exact up_s | (rw [up_n (by omega)]; first | assumption | exact up_s | (rw [up_n (by omega)]; first | assumption | exact up_s)))))))))))) rfl 2 (by decide) (hq _ q581 rfl) (fun _ h9 => h9) (by rfl) dX7_piece_111 ?_
              refine lv_iconst (v := 1) hx hb dX7_piece_114 (by decide) ?_
              refine lv_iadd hx hb dX7_piece_115 ?_
              rw [nI_1]
              refine k_putN (ci := 7) (C := RX5) (T := TX5) (N := 5) (ty := tyX5 2) hx hb hts w_RX5 tyX5 tyX5_ok nmX5 hown hK hW hS (by first | assumption | exact up_s | (rw [up_n (by omega)]; first | assumption | exact up_s | (rw [up_n (by omega)]; first | assumption | exact up_s | (rw [up_n (by omega)]; first | assumption | exact up_s | (rw [up_n (by omega)]; first | assumption | exact up_s | (rw [up_n (by omega)]; first | assumption | exact up_s | (rw [up_n (by omega)]; first | assumption | exact up_s | (rw [up_n (by omega)]; first | assumption | exact up_s | (rw [up_n (by omega)]; first | assumption | exact up_s | (rw [up_n (by omega)]; first | assumption | exact up_s | (rw [up_n (by omega)]; first | assumption | exact up_s | (rw [up_n (by omega)]; first | assumption | exact up_s)))))))))))) (by omega) rfl 2 (by decide) (hq _ q581 rfl) (fun _ h9 => h9) rfl (by decide +kernel) rfl rfl (by first | exact Nat.le_of_ble_eq_true rfl | (simp only [List.length_set]; exact Nat.le_of_ble_eq_true rfl)) dX7_piece_116 (fun H locs hW hS => ?_)
              refine lv_aload hx hb dX7_piece_119 (hL.at 6 rfl) ?_
              refine lv_dup hx hb dX7_piece_121 rfl ?_
              refine k_getN (ci := 7) (C := RX5) (T := TX5) (N := 5) hx hb hts w_RX5 hown hK hW (by first | assumption | exact up_s | (rw [up_n (by omega)]; first | assumption | exact up_s | (rw [up_n (by omega)]; first | assumption | exact up_s | (rw [up_n (by omega)]; first | assumption | exact up_s | (rw [up_n (by omega)]; first | assumption | exact up_s | (rw [up_n (by omega)]; first | assumption | exact up_s | (rw [up_n (by omega)]; first | assumption | exact up_s | (rw [up_n (by omega)]; first | assumption | exact up_s | (rw [up_n (by omega)]; first | assumption | exact up_s | (rw [up_n (by omega)]; first | assumption | exact up_s | (rw [up_n (by omega)]; first | assumption | exact up_s | (rw [up_n (by omega)]; first | assumption | exact up_s)))))))))))) rfl 3 (by decide) (hq _ q582 rfl) (fun _ h9 => h9) (by rfl) dX7_piece_122 ?_
              refine lv_iload hx hb dX7_piece_125 (hL.at 5 rfl) ?_
              refine lv_iadd hx hb dX7_piece_127 ?_
              rw [nI_add, ← fCnt_push (pc := (p1, p2, es, cn))]
              refine k_putN (ci := 7) (C := RX5) (T := TX5) (N := 5) (ty := tyX5 3) hx hb hts w_RX5 tyX5 tyX5_ok nmX5 hown hK hW hS (by first | assumption | exact up_s | (rw [up_n (by omega)]; first | assumption | exact up_s | (rw [up_n (by omega)]; first | assumption | exact up_s | (rw [up_n (by omega)]; first | assumption | exact up_s | (rw [up_n (by omega)]; first | assumption | exact up_s | (rw [up_n (by omega)]; first | assumption | exact up_s | (rw [up_n (by omega)]; first | assumption | exact up_s | (rw [up_n (by omega)]; first | assumption | exact up_s | (rw [up_n (by omega)]; first | assumption | exact up_s | (rw [up_n (by omega)]; first | assumption | exact up_s | (rw [up_n (by omega)]; first | assumption | exact up_s | (rw [up_n (by omega)]; first | assumption | exact up_s)))))))))))) (by omega) rfl 3 (by decide) (hq _ q582 rfl) (fun _ h9 => h9) rfl (by decide +kernel) rfl rfl (by first | exact Nat.le_of_ble_eq_true rfl | (simp only [List.length_set]; exact Nat.le_of_ble_eq_true rfl)) dX7_piece_128 (fun H locs hW hS => ?_)
              refine lv_aload hx hb dX7_piece_131 (hL.at 6 rfl) ?_
              refine k_getN (ci := 7) (C := RX5) (T := TX5) (N := 5) hx hb hts w_RX5 hown hK hW (by first | assumption | exact up_s | (rw [up_n (by omega)]; first | assumption | exact up_s | (rw [up_n (by omega)]; first | assumption | exact up_s | (rw [up_n (by omega)]; first | assumption | exact up_s | (rw [up_n (by omega)]; first | assumption | exact up_s | (rw [up_n (by omega)]; first | assumption | exact up_s | (rw [up_n (by omega)]; first | assumption | exact up_s | (rw [up_n (by omega)]; first | assumption | exact up_s | (rw [up_n (by omega)]; first | assumption | exact up_s | (rw [up_n (by omega)]; first | assumption | exact up_s | (rw [up_n (by omega)]; first | assumption | exact up_s | (rw [up_n (by omega)]; first | assumption | exact up_s)))))))))))) rfl 2 (by decide) (hq _ q581 rfl) (fun _ h9 => h9) (by rfl) dX7_piece_133 ?_
              rw [hQ]
              exact vx_ret (k_iret hx hb hr hlocks hW hS (by omega) (by omega) dX7_piece_136 (⟨i, p1, p2, es, cn, hi, hxi, ⟨hpo1, rfl⟩, ⟨hpo2, rfl⟩, ⟨he2, rfl⟩, ⟨hn1, hn2, rfl⟩, hlt, hfl, rfl, hdk89, (up_n (by omega)).trans ((up_n (by omega)).trans ((up_n (by omega)).trans (hv1))), (up_n (by omega)).trans ((up_n (by omega)).trans (up_s)), up_s, fun j a b d => (up_n a).trans ((up_n a).trans ((up_n b).trans ((hr1 j d).trans (up_n d))))⟩))
            · try simp only [b2_eq, Decidable.not_not] at c66
              try dsimp only at c66
              have hrf : (mst M i).1 = 5 ∨ ¬ (mst M i).2.2 = 0 := Or.inr (by first | exact c66 | exact fun z => c66 z)
              rw [hQ]
              exact k_throw G hx hb hlocks (names := ["java/lang/RuntimeException", "java/lang/Exception"]) hown hts hq hI (by decide) (by decide) (gT_in q449 rfl) (gT_in q65 rfl) 16 rfl (fun w hw => hq w (at_65 w hw).1 (at_65 w hw).2) ot_65 hW hS (hL.1.trans hml.symm) hin dX7_piece_69 dX7_piece_72 dX7_piece_73 dX7_piece_75 dX7_piece_78 (by decide) (by decide) (by show _ ≤ (2 : Nat); omega) (by show _ ≤ (12 : Nat); omega) (by omega) (by omega) (by first | exact Or.inr (Or.inl ⟨rfl, ⟨i, hi, hxi⟩, hbad⟩) | exact Or.inr (Or.inr ⟨rfl, i, hi, hxi, fun z => z.elim (fun z => c11 ((np_iff _).mpr z)) (fun z => z.elim (fun z => c18 ((np_iff _).mpr z)) (fun z => z.elim c29 c39)), hrf⟩))
        · try simp only [b2_eq, Decidable.not_not] at c39
          try dsimp only at c39
          have hbad : ¬ kPart x2 ∨ ¬ kPart x3 ∨ (x4 < 0 ∨ 40 < x4) ∨ (x5 < 1 ∨ 4 < x5) := Or.inr (Or.inr (Or.inr (by first | exact c39 | exact Decidable.not_not.mp c39)))
          rw [hQ]
          exact k_throw G hx hb hlocks (names := ["java/lang/RuntimeException", "java/lang/Exception"]) hown hts hq hI (by decide) (by decide) (gT_in q220 rfl) (gT_in q64 rfl) 15 rfl (fun w hw => hq w (at_54 w hw).1 (at_54 w hw).2) ot_54 hW hS (hL.1.trans hml.symm) hin dX7_piece_42 dX7_piece_45 dX7_piece_46 dX7_piece_48 dX7_piece_51 (by decide) (by decide) (by show _ ≤ (2 : Nat); omega) (by show _ ≤ (12 : Nat); omega) (by omega) (by omega) (by first | exact Or.inr (Or.inl ⟨rfl, ⟨i, hi, hxi⟩, hbad⟩) | exact Or.inr (Or.inr ⟨rfl, i, hi, hxi, fun z => z.elim (fun z => c11 ((np_iff _).mpr z)) (fun z => z.elim (fun z => c18 ((np_iff _).mpr z)) (fun z => z.elim c29 c39)), hrf⟩))

set_option maxHeartbeats 8000000 in
set_option maxRecDepth 100000 in
/-- TailorBench.order  -/
theorem c_order {l : Launch} {D : va_G} {cy : Nat → ClassId} {sad : Nat → Nat} {em : Nat} {s0 : State} {a0 : Array Value} (G : kG kSTR l D cy sad em s0 a0) {ad : Nat → Nat} {ct : Nat → Option va_E} {M : tM} (hm : RepC cy ad ct M) (ho : okM M) (hf : FreeC ct M) (x1 x2 x3 : Int32) :
    KX l yX7_order [.code yX7_order prog_1_method_9_code 6 (some .int)] 7 120 4 27 [.ref (ad 1), .int x1, .int x2, .int x3] D s0 ad ct (fun v ad' ct' => ∃ q i hh : Nat, q < mP M ∧ x1 = nI q ∧ i < mS M ∧ x2 = nI i ∧ hh ≤ 400 ∧ x3 = nI hh ∧ mO M < 8 ∧ 0 < (mst M i).1 ∧ v = some (.int (nI (mO M))) ∧ (∀ j, j ≠ 64 + mO M → j ≠ 72 + mO M → ad' j = ad j) ∧ ct' (64 + mO M) = some (oOr ad' (mO M) (q, i, FP.d2i (mClk M) + nI hh, 0, -1, 0, -1, cM1, -1, cD0, fun _ => 0)) ∧ ct' (72 + mO M) = some (.inl (cy 0, 5, aD (fun _ => 0))) ∧ ct' 6 = some (.inl (cy 8, 8, aQ (va_up (kqs ad 64 (mO M)) (mO M) (some (ad' (64 + mO M)))))) ∧ ct' 1 = some (oShop ad (aOr M (q, i, FP.d2i (mClk M) + nI hh, 0, -1, 0, -1, cM1, -1, cD0, fun _ => 0))) ∧ ct' (32 + i) = some (oSt ad i ((mst M i).1, (mst M i).2.1, 1)) ∧ ∀ j, j ≠ 1 → j ≠ 6 → j ≠ 64 + mO M → j ≠ 72 + mO M → j ≠ 32 + i → ct' j = ct j) (fun E => (E = eIdx ∧ (¬ kIn x1 (mP M) ∨ ¬ kIn x2 (mS M))) ∨ (E = eArg ∧ kIn x1 (mP M) ∧ kIn x2 (mS M) ∧ (x3 < 0 ∨ 400 < x3)) ∨ (E = eSta ∧ ∃ i, i < mS M ∧ x2 = nI i ∧ kIn x1 (mP M) ∧ ¬ (x3 < 0 ∨ 400 < x3) ∧ (mO M = 8 ∨ (mst M i).1 = 0))) := by
  refine KX.of G (by decide) (Nat.le_of_ble_eq_true rfl) (Nat.le_of_ble_eq_true rfl) ?_
  intro p e s m args below meth c ls Q hQ X hin hL hW hS
  obtain ⟨hx, hb, hr, hml, hown, hlocks, hts, hq, hK, hI⟩ := X
  have hbn := ho.1
  have hs1 := hm.1
  have ha6 := hm.2.1.2.2.2.2
  refine lv_aload_n hx hb dX7_order_0 rfl (hL.at 0 rfl) ?_
  refine lv_iload_n hx hb dX7_order_1 rfl (hL.at 1 rfl) ?_
  refine k_callVX (q := (RX7, TX7, 15)) hx hb hml hown hts hK hI hS hW hL.1 (by first | assumption | exact up_s | (rw [up_n (by omega)]; first | assumption | exact up_s | (rw [up_n (by omega)]; first | assumption | exact up_s | (rw [up_n (by omega)]; first | assumption | exact up_s | (rw [up_n (by omega)]; first | assumption | exact up_s | (rw [up_n (by omega)]; first | assumption | exact up_s | (rw [up_n (by omega)]; first | assumption | exact up_s | (rw [up_n (by omega)]; first | assumption | exact up_s | (rw [up_n (by omega)]; first | assumption | exact up_s | (rw [up_n (by omega)]; first | assumption | exact up_s | (rw [up_n (by omega)]; first | assumption | exact up_s | (rw [up_n (by omega)]; first | assumption | exact up_s)))))))))))) rfl (c_personAt G hm ho x1) (m5 (gT_in q547 rfl) (gT_in q549 rfl) (gT_in q20 rfl) (gT_in q55 rfl) (gT_in q550 rfl)) rfl (show kpar yX7_personAt 1 from ⟨by decide, by decide, by decide +kernel⟩) ⟨by decide, by decide⟩ (by show _ ≤ (4 : Nat); omega) (by show _ ≤ (27 : Nat); omega) rfl (by first | decide | exact Nat.le_of_ble_eq_true rfl) dX7_order_2 (fun E ce q9 H locs hp hW hS hce hcv hcl => ?_) (fun v ad2 ct2 H locs hp hW hS => ?_)
  · rw [hQ]; exact k_out hown hlocks hin hW hS hce hcv hcl (by omega) (by omega) (Or.inl ⟨hp.1, Or.inl hp.2⟩)
  obtain ⟨q, hq9, hxq, rfl, h1, h2⟩ := hp
  rw [h1, h2] at hW
  refine k_ast hx hb hL (i := 4) (by decide) dX7_order_5 (fun ls hL => ?_)
  refine lv_aload_n hx hb dX7_order_7 rfl (hL.at 0 rfl) ?_
  refine lv_iload_n hx hb dX7_order_8 rfl (hL.at 2 rfl) ?_
  refine k_callVX (q := (RX7, TX7, 15)) hx hb hml hown hts hK hI hS hW hL.1 (by first | assumption | exact up_s | (rw [up_n (by omega)]; first | assumption | exact up_s | (rw [up_n (by omega)]; first | assumption | exact up_s | (rw [up_n (by omega)]; first | assumption | exact up_s | (rw [up_n (by omega)]; first | assumption | exact up_s | (rw [up_n (by omega)]; first | assumption | exact up_s | (rw [up_n (by omega)]; first | assumption | exact up_s | (rw [up_n (by omega)]; first | assumption | exact up_s | (rw [up_n (by omega)]; first | assumption | exact up_s | (rw [up_n (by omega)]; first | assumption | exact up_s | (rw [up_n (by omega)]; first | assumption | exact up_s | (rw [up_n (by omega)]; first | assumption | exact up_s)))))))))))) rfl (c_styleAt G hm ho x2) (m5 (gT_in q602 rfl) (gT_in q604 rfl) (gT_in q22 rfl) (gT_in q55 rfl) (gT_in q605 rfl)) rfl (show kpar yX7_styleAt 1 from ⟨by decide, by decide, by decide +kernel⟩) ⟨by decide, by decide⟩ (by show _ ≤ (4 : Nat); omega) (by show _ ≤ (27 : Nat); omega) rfl (by first | decide | exact Nat.le_of_ble_eq_true rfl) dX7_order_9 (fun E ce q9 H locs hp hW hS hce hcv hcl => ?_) (fun v ad9 ct9 H locs hp hW hS => ?_)
  · rw [hQ]; exact k_out hown hlocks hin hW hS hce hcv hcl (by omega) (by omega) (Or.inl ⟨hp.1, Or.inr hp.2⟩)
  obtain ⟨i, hi, hxi, rfl, h1, h2⟩ := hp
  rw [h1, h2] at hW
  refine k_ast hx hb hL (i := 5) (by decide) dX7_order_12 (fun ls hL => ?_)
  have hST := hm.2.2.2.2.1 i hi
  have ho5 := (ho.2.2.2.1 i hi).1
  refine lv_iload_n hx hb dX7_order_14 rfl (hL.at 3 rfl) ?_
  refine lv_iconst (v := 0) hx hb dX7_order_15 (by decide) ?_
  refine lv_sipush (v := 400) hx hb dX7_order_16 (by decide) ?_
  refine k_callS hx hb hml hown hts hI hS hW hL.1 (c_isOutside G x3 0 400) (m4 (gT_in q421 rfl) (gT_in q422 rfl) (gT_in q55 rfl) (gT_in q423 rfl)) (show kpar yX7_isOutside 3 from ⟨by decide, by decide, by decide +kernel⟩) ⟨by decide, by decide⟩ (by show _ ≤ (4 : Nat); omega) (by show _ ≤ (27 : Nat); omega) rfl (by first | decide | exact Nat.le_of_ble_eq_true rfl) dX7_order_19 (fun v ad19 ct19 H locs hp hW hS => ?_)
  obtain ⟨rfl, h1, h2⟩ := hp
  rw [h1, h2] at hW
  refine lv_if_eq (tgt := 35) hx hb dX7_order_22 (by decide) (fun c22 => ?_) (fun c22 => ?_)
  · try simp only [b2_eq, Decidable.not_not] at c22
    try dsimp only at c22
    refine lv_aload_n hx hb dX7_order_35 rfl (hL.at 0 rfl) ?_
    refine k_get (ci := 9) (C := RX7) (T := TX7) (N := 15) hx hb hts w_RX7 hown hK hW (by first | assumption | exact up_s | (rw [up_n (by omega)]; first | assumption | exact up_s | (rw [up_n (by omega)]; first | assumption | exact up_s | (rw [up_n (by omega)]; first | assumption | exact up_s | (rw [up_n (by omega)]; first | assumption | exact up_s | (rw [up_n (by omega)]; first | assumption | exact up_s | (rw [up_n (by omega)]; first | assumption | exact up_s | (rw [up_n (by omega)]; first | assumption | exact up_s | (rw [up_n (by omega)]; first | assumption | exact up_s | (rw [up_n (by omega)]; first | assumption | exact up_s | (rw [up_n (by omega)]; first | assumption | exact up_s | (rw [up_n (by omega)]; first | assumption | exact up_s)))))))))))) rfl 10 (by decide) (hq _ q159 rfl) (fun _ h9 => h9) (by rfl) dX7_order_36 ?_
    refine lv_bipush (v := 8) hx hb dX7_order_39 (by decide) ?_
    refine lv_icmp_ge (tgt := 52) hx hb dX7_order_41 (by decide) (fun c41 => ?_) (fun c41 => ?_)
    · try dsimp only at c41
      have hrf : mO M = 8 ∨ (mst M i).1 = 0 := Or.inl (by
        have h9 : ¬ mO M < 8 := fun z => absurd c41 (by rw [Int32.not_le]; exact nI_lt (b := 8) z (by decide))
        omega)
      rw [hQ]
      exact k_throw G hx hb hlocks (names := ["java/lang/RuntimeException", "java/lang/Exception"]) hown hts hq hI (by decide) (by decide) (gT_in q449 rfl) (gT_in q65 rfl) 20 rfl (fun w hw => hq w (at_65 w hw).1 (at_65 w hw).2) ot_65 hW hS (hL.1.trans hml.symm) hin dX7_order_52 dX7_order_55 dX7_order_56 dX7_order_58 dX7_order_61 (by decide) (by decide) (by show _ ≤ (4 : Nat); omega) (by show _ ≤ (27 : Nat); omega) (by omega) (by omega) (by first | exact Or.inr (Or.inl ⟨rfl, ⟨q, hq9, hxq⟩, ⟨i, hi, hxi⟩, hbad⟩) | exact Or.inr (Or.inr ⟨rfl, i, hi, hxi, ⟨q, hq9, hxq⟩, c22, hrf⟩))
    · try dsimp only at c41
      have hlt : mO M < 8 := by
        rcases Nat.lt_or_ge (mO M) 8 with q9 | q9
        · exact q9
        · exact absurd (nI_le (a := 8) q9 (by omega)) c41
      refine lv_aload hx hb dX7_order_44 (hL.at 5 rfl) ?_
      refine k_getN (ci := 7) (C := RX5) (T := TX5) (N := 5) hx hb hts w_RX5 hown hK hW (by first | assumption | exact up_s | (rw [up_n (by omega)]; first | assumption | exact up_s | (rw [up_n (by omega)]; first | assumption | exact up_s | (rw [up_n (by omega)]; first | assumption | exact up_s | (rw [up_n (by omega)]; first | assumption | exact up_s | (rw [up_n (by omega)]; first | assumption | exact up_s | (rw [up_n (by omega)]; first | assumption | exact up_s | (rw [up_n (by omega)]; first | assumption | exact up_s | (rw [up_n (by omega)]; first | assumption | exact up_s | (rw [up_n (by omega)]; first | assumption | exact up_s | (rw [up_n (by omega)]; first | assumption | exact up_s | (rw [up_n (by omega)]; first | assumption | exact up_s)))))))))))) rfl 2 (by decide) (hq _ q581 rfl) (fun _ h9 => h9) (by rfl) dX7_order_46 ?_
      refine lv_if_ne (tgt := 62) hx hb dX7_order_49 (by decide) (fun c49 => ?_) (fun c49 => ?_)
      · try dsimp only at c49
        have hpos : 0 < (mst M i).1 := by
          rcases Nat.eq_zero_or_pos (mst M i).1 with q9 | q9
          · exact absurd (by rw [q9]; rfl) c49
          · exact q9
        obtain ⟨hh, -, hh2, hxh⟩ := kIn_btw (a := 0) (b := 400) c22 (by decide)
        subst hxh
        refine lv_aload_n hx hb dX7_order_62 rfl (hL.at 0 rfl) ?_
        refine k_get (ci := 9) (C := RX7) (T := TX7) (N := 15) hx hb hts w_RX7 hown hK hW (by first | assumption | exact up_s | (rw [up_n (by omega)]; first | assumption | exact up_s | (rw [up_n (by omega)]; first | assumption | exact up_s | (rw [up_n (by omega)]; first | assumption | exact up_s | (rw [up_n (by omega)]; first | assumption | exact up_s | (rw [up_n (by omega)]; first | assumption | exact up_s | (rw [up_n (by omega)]; first | assumption | exact up_s | (rw [up_n (by omega)]; first | assumption | exact up_s | (rw [up_n (by omega)]; first | assumption | exact up_s | (rw [up_n (by omega)]; first | assumption | exact up_s | (rw [up_n (by omega)]; first | assumption | exact up_s | (rw [up_n (by omega)]; first | assumption | exact up_s)))))))))))) rfl 4 (by decide) (hq _ q153 rfl) (fun _ h9 => h9) (by rfl) dX7_order_63 ?_
        refine lv_aload_n hx hb dX7_order_66 rfl (hL.at 0 rfl) ?_
        refine k_get (ci := 9) (C := RX7) (T := TX7) (N := 15) hx hb hts w_RX7 hown hK hW (by first | assumption | exact up_s | (rw [up_n (by omega)]; first | assumption | exact up_s | (rw [up_n (by omega)]; first | assumption | exact up_s | (rw [up_n (by omega)]; first | assumption | exact up_s | (rw [up_n (by omega)]; first | assumption | exact up_s | (rw [up_n (by omega)]; first | assumption | exact up_s | (rw [up_n (by omega)]; first | assumption | exact up_s | (rw [up_n (by omega)]; first | assumption | exact up_s | (rw [up_n (by omega)]; first | assumption | exact up_s | (rw [up_n (by omega)]; first | assumption | exact up_s | (rw [up_n (by omega)]; first | assumption | exact up_s | (rw [up_n (by omega)]; first | assumption | exact up_s)))))))))))) rfl 10 (by decide) (hq _ q159 rfl) (fun _ h9 => h9) (by rfl) dX7_order_67 ?_
        refine k_new (ci := 4) (fs := [.null, .null, .int 0, .null, .int 0, .int 0, .int 0, .int 0, .double 0, .int 0]) (C := RX2) (T := TX2) (N := 10) hx hb hts w_RX2 tyX2 tyX2_ok hown (hq _ q102 rfl) (hq _ q338 rfl) (hq _ q80 rfl) hK hW hS hI.2.1 rfl (64 + mO M) (hf.2.2.2.2.2 (mO M) (Nat.le_refl _) hlt).1 (fun j hj => by rcases (show j = 0 ∨ j = 1 ∨ j = 2 ∨ j = 3 ∨ j = 4 ∨ j = 5 ∨ j = 6 ∨ j = 7 ∨ j = 8 ∨ j = 9 by omega) with rfl | rfl | rfl | rfl | rfl | rfl | rfl | rfl | rfl | rfl <;> rfl) (by show _ ≤ (4 : Nat); omega) (by show _ ≤ (27 : Nat); omega) dX7_order_70 (fun q70 H hW hS => ?_)
        obtain ⟨ad1, hd70⟩ : ∃ z, z = upA ad (64 + mO M) q70 := ⟨_, rfl⟩
        rw [← hd70] at hW ⊢
        have hdk70 : ∀ j, j ≠ (64 + mO M) → ad1 j = ad j := fun j hj => by rw [hd70]; exact upA_n hj
        rw [← hdk70 1 (by omega)] at hL
        rw [← hdk70 (24 + q) (by omega)] at hL
        rw [← hdk70 (32 + i) (by omega)] at hL
        rw [← hdk70 6 (by omega)]
        refine lv_dup hx hb dX7_order_73 rfl ?_
        refine lv_aload hx hb dX7_order_74 (hL.at 4 rfl) ?_
        refine lv_aload hx hb dX7_order_76 (hL.at 5 rfl) ?_
        refine lv_aload_n hx hb dX7_order_78 rfl (hL.at 0 rfl) ?_
        refine k_get (ci := 9) (C := RX7) (T := TX7) (N := 15) hx hb hts w_RX7 hown hK hW (by first | assumption | exact up_s | (rw [up_n (by omega)]; first | assumption | exact up_s | (rw [up_n (by omega)]; first | assumption | exact up_s | (rw [up_n (by omega)]; first | assumption | exact up_s | (rw [up_n (by omega)]; first | assumption | exact up_s | (rw [up_n (by omega)]; first | assumption | exact up_s | (rw [up_n (by omega)]; first | assumption | exact up_s | (rw [up_n (by omega)]; first | assumption | exact up_s | (rw [up_n (by omega)]; first | assumption | exact up_s | (rw [up_n (by omega)]; first | assumption | exact up_s | (rw [up_n (by omega)]; first | assumption | exact up_s | (rw [up_n (by omega)]; first | assumption | exact up_s)))))))))))) rfl 11 (by decide) (hq _ q160 rfl) (fun _ h9 => h9) (by rfl) dX7_order_79 ?_
        refine lv_d2i hx hb dX7_order_82 ?_
        refine lv_iload_n hx hb dX7_order_83 rfl (hL.at 3 rfl) ?_
        refine lv_iadd hx hb dX7_order_84 ?_
        refine k_callIN (host := "TailorBench") hx hb hml hown hts hI hS hW hL.1 (c_iOrder G (kz := 64 + mO M) (kq := 72 + mO M) (by omega) (by omega) up_s ((up_n (by omega)).trans (hf.2.2.2.2.2 (mO M) (Nat.le_refl _) hlt).2) _ _ _) (gT_in q666 rfl) (hq _ q664 rfl) (hq _ q80 rfl) (hq _ q665 rfl) rfl (show kpar yX2_init 3 from ⟨by decide, by decide, by decide +kernel⟩) ⟨by decide, by decide⟩ (by show _ ≤ (4 : Nat); omega) (by show _ ≤ (27 : Nat); omega) rfl (by first | decide | exact Nat.le_of_ble_eq_true rfl) dX7_order_85 (fun v ad85 ct85 H locs hp hW hS => ?_)
        obtain ⟨rfl, hda, hv1, hv2, hr1⟩ := hp
        rw [← hda 1 (by omega), ← hda (24 + q) (by omega), ← hda (32 + i) (by omega)] at hL
        rw [← hda (64 + mO M) (by omega), ← hda 6 (by omega)]
        have hs85 : ct85 1 = some (oShop ad M) := (hr1 1 (by omega) (by omega)).trans ((up_n (by omega)).trans hs1)
        have ha85 := (hr1 6 (by omega) (by omega)).trans ((up_n (by omega)).trans ha6)
        have hST85 := (hr1 (32 + i) (by omega) (by omega)).trans ((up_n (by omega)).trans hST)
        refine k_aast hx hb hK hW hS 8 (r := (RX2, TX2, 10)) (by first | assumption | exact up_s | (rw [up_n (by omega)]; first | assumption | exact up_s | (rw [up_n (by omega)]; first | assumption | exact up_s | (rw [up_n (by omega)]; first | assumption | exact up_s | (rw [up_n (by omega)]; first | assumption | exact up_s | (rw [up_n (by omega)]; first | assumption | exact up_s | (rw [up_n (by omega)]; first | assumption | exact up_s | (rw [up_n (by omega)]; first | assumption | exact up_s | (rw [up_n (by omega)]; first | assumption | exact up_s | (rw [up_n (by omega)]; first | assumption | exact up_s | (rw [up_n (by omega)]; first | assumption | exact up_s | (rw [up_n (by omega)]; first | assumption | exact up_s)))))))))))) (by omega) rfl (by first | assumption | exact up_s | (rw [up_n (by omega)]; first | assumption | exact up_s | (rw [up_n (by omega)]; first | assumption | exact up_s | (rw [up_n (by omega)]; first | assumption | exact up_s | (rw [up_n (by omega)]; first | assumption | exact up_s | (rw [up_n (by omega)]; first | assumption | exact up_s | (rw [up_n (by omega)]; first | assumption | exact up_s | (rw [up_n (by omega)]; first | assumption | exact up_s | (rw [up_n (by omega)]; first | assumption | exact up_s | (rw [up_n (by omega)]; first | assumption | exact up_s | (rw [up_n (by omega)]; first | assumption | exact up_s | (rw [up_n (by omega)]; first | assumption | exact up_s)))))))))))) rfl (mO M) hlt (by omega) rfl dX7_order_88 (fun H locs hW hS => ?_)
        refine lv_aload_n hx hb dX7_order_89 rfl (hL.at 0 rfl) ?_
        refine lv_dup hx hb dX7_order_90 rfl ?_
        refine k_get (ci := 9) (C := RX7) (T := TX7) (N := 15) hx hb hts w_RX7 hown hK hW (by first | assumption | exact up_s | (rw [up_n (by omega)]; first | assumption | exact up_s | (rw [up_n (by omega)]; first | assumption | exact up_s | (rw [up_n (by omega)]; first | assumption | exact up_s | (rw [up_n (by omega)]; first | assumption | exact up_s | (rw [up_n (by omega)]; first | assumption | exact up_s | (rw [up_n (by omega)]; first | assumption | exact up_s | (rw [up_n (by omega)]; first | assumption | exact up_s | (rw [up_n (by omega)]; first | assumption | exact up_s | (rw [up_n (by omega)]; first | assumption | exact up_s | (rw [up_n (by omega)]; first | assumption | exact up_s | (rw [up_n (by omega)]; first | assumption | exact up_s)))))))))))) rfl 10 (by decide) (hq _ q159 rfl) (fun _ h9 => h9) (by rfl) dX7_order_91 ?_
        refine lv_iconst (v := 1) hx hb dX7_order_94 (by decide) ?_
        refine lv_iadd hx hb dX7_order_95 ?_
        rw [nI_1]
        refine k_put (ci := 9) (C := RX7) (T := TX7) (N := 15) (ty := tyX7 10) hx hb hts w_RX7 tyX7 tyX7_ok nmX7 hown hK hW hS (by first | assumption | exact up_s | (rw [up_n (by omega)]; first | assumption | exact up_s | (rw [up_n (by omega)]; first | assumption | exact up_s | (rw [up_n (by omega)]; first | assumption | exact up_s | (rw [up_n (by omega)]; first | assumption | exact up_s | (rw [up_n (by omega)]; first | assumption | exact up_s | (rw [up_n (by omega)]; first | assumption | exact up_s | (rw [up_n (by omega)]; first | assumption | exact up_s | (rw [up_n (by omega)]; first | assumption | exact up_s | (rw [up_n (by omega)]; first | assumption | exact up_s | (rw [up_n (by omega)]; first | assumption | exact up_s | (rw [up_n (by omega)]; first | assumption | exact up_s)))))))))))) (by omega) rfl 10 (by decide) (hq _ q159 rfl) (fun _ h9 => h9) rfl (by decide +kernel) rfl rfl (by first | exact Nat.le_of_ble_eq_true rfl | (simp only [List.length_set]; exact Nat.le_of_ble_eq_true rfl)) dX7_order_96 (fun H locs hW hS => ?_)
        refine lv_aload hx hb dX7_order_99 (hL.at 5 rfl) ?_
        refine lv_iconst (v := 1) hx hb dX7_order_101 (by decide) ?_
        refine k_putN (ci := 7) (C := RX5) (T := TX5) (N := 5) (ty := tyX5 4) hx hb hts w_RX5 tyX5 tyX5_ok nmX5 hown hK hW hS (by first | assumption | exact up_s | (rw [up_n (by omega)]; first | assumption | exact up_s | (rw [up_n (by omega)]; first | assumption | exact up_s | (rw [up_n (by omega)]; first | assumption | exact up_s | (rw [up_n (by omega)]; first | assumption | exact up_s | (rw [up_n (by omega)]; first | assumption | exact up_s | (rw [up_n (by omega)]; first | assumption | exact up_s | (rw [up_n (by omega)]; first | assumption | exact up_s | (rw [up_n (by omega)]; first | assumption | exact up_s | (rw [up_n (by omega)]; first | assumption | exact up_s | (rw [up_n (by omega)]; first | assumption | exact up_s | (rw [up_n (by omega)]; first | assumption | exact up_s)))))))))))) (by omega) rfl 4 (by decide) (hq _ q583 rfl) (fun _ h9 => h9) rfl (by decide +kernel) rfl rfl (by first | exact Nat.le_of_ble_eq_true rfl | (simp only [List.length_set]; exact Nat.le_of_ble_eq_true rfl)) dX7_order_102 (fun H locs hW hS => ?_)
        refine lv_aload_n hx hb dX7_order_105 rfl (hL.at 0 rfl) ?_
        refine k_get (ci := 9) (C := RX7) (T := TX7) (N := 15) hx hb hts w_RX7 hown hK hW (by first | assumption | exact up_s | (rw [up_n (by omega)]; first | assumption | exact up_s | (rw [up_n (by omega)]; first | assumption | exact up_s | (rw [up_n (by omega)]; first | assumption | exact up_s | (rw [up_n (by omega)]; first | assumption | exact up_s | (rw [up_n (by omega)]; first | assumption | exact up_s | (rw [up_n (by omega)]; first | assumption | exact up_s | (rw [up_n (by omega)]; first | assumption | exact up_s | (rw [up_n (by omega)]; first | assumption | exact up_s | (rw [up_n (by omega)]; first | assumption | exact up_s | (rw [up_n (by omega)]; first | assumption | exact up_s | (rw [up_n (by omega)]; first | assumption | exact up_s)))))))))))) rfl 10 (by decide) (hq _ q159 rfl) (fun _ h9 => h9) (by rfl) dX7_order_106 ?_
        refine lv_iconst (v := 1) hx hb dX7_order_109 (by decide) ?_
        refine lv_isub hx hb dX7_order_110 ?_
        rw [show nI (mO M + 1) - 1 = nI (mO M) from nI_pred (mO M)]
        rw [hQ]
        exact vx_ret (k_iret hx hb hr hlocks hW hS (by omega) (by omega) dX7_order_111 (⟨q, i, hh, hq9, hxq, hi, hxi, hh2, rfl, hlt, hpos, rfl, fun j a b => (hda j b).trans (hdk70 j a), (up_n (by omega)).trans ((up_n (by omega)).trans ((up_n (by omega)).trans (hv1.trans (by rw [← hda (24 + q) (by omega), ← hda (32 + i) (by omega)]; rfl)))), (up_n (by omega)).trans ((up_n (by omega)).trans ((up_n (by omega)).trans (hv2))), (up_n (by omega)).trans ((up_n (by omega)).trans (up_s)), (up_n (by omega)).trans (up_s), up_s, fun j a b d f g => (up_n g).trans ((up_n a).trans ((up_n b).trans ((hr1 j d f).trans (up_n d))))⟩))
      · try dsimp only at c49
        have hrf : mO M = 8 ∨ (mst M i).1 = 0 := Or.inr (by
          rcases Nat.eq_zero_or_pos (mst M i).1 with q9 | q9
          · exact q9
          · exact absurd (by first | exact c49 | exact Decidable.not_not.mp c49) (nI_ne0 q9 (by omega)))
        rw [hQ]
        exact k_throw G hx hb hlocks (names := ["java/lang/RuntimeException", "java/lang/Exception"]) hown hts hq hI (by decide) (by decide) (gT_in q449 rfl) (gT_in q65 rfl) 20 rfl (fun w hw => hq w (at_65 w hw).1 (at_65 w hw).2) ot_65 hW hS (hL.1.trans hml.symm) hin dX7_order_52 dX7_order_55 dX7_order_56 dX7_order_58 dX7_order_61 (by decide) (by decide) (by show _ ≤ (4 : Nat); omega) (by show _ ≤ (27 : Nat); omega) (by omega) (by omega) (by first | exact Or.inr (Or.inl ⟨rfl, ⟨q, hq9, hxq⟩, ⟨i, hi, hxi⟩, hbad⟩) | exact Or.inr (Or.inr ⟨rfl, i, hi, hxi, ⟨q, hq9, hxq⟩, c22, hrf⟩))
  · try simp only [b2_eq, Decidable.not_not] at c22
    try dsimp only at c22
    have hbad : (x3 < 0 ∨ 400 < x3) := by first | exact c22 | exact Decidable.not_not.mp c22
    rw [hQ]
    exact k_throw G hx hb hlocks (names := ["java/lang/RuntimeException", "java/lang/Exception"]) hown hts hq hI (by decide) (by decide) (gT_in q220 rfl) (gT_in q64 rfl) 19 rfl (fun w hw => hq w (at_54 w hw).1 (at_54 w hw).2) ot_54 hW hS (hL.1.trans hml.symm) hin dX7_order_25 dX7_order_28 dX7_order_29 dX7_order_31 dX7_order_34 (by decide) (by decide) (by show _ ≤ (4 : Nat); omega) (by show _ ≤ (27 : Nat); omega) (by omega) (by omega) (by first | exact Or.inr (Or.inl ⟨rfl, ⟨q, hq9, hxq⟩, ⟨i, hi, hxi⟩, hbad⟩) | exact Or.inr (Or.inr ⟨rfl, i, hi, hxi, ⟨q, hq9, hxq⟩, c22, hrf⟩))
