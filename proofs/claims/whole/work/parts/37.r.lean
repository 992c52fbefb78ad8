/-! one more -/
set_option maxHeartbeats 8000000 in
set_option maxRecDepth 100000 in
/-- TailorBench.cloth  -/
theorem c_cloth {l : Launch} {D : va_G} {cy : Nat → ClassId} {sad : Nat → Nat} {em : Nat} {s0 : State} {a0 : Array Value} (G : kG kSTR l D cy sad em s0 a0) {ad : Nat → Nat} {ct : Nat → Option va_E} {M : tM} (hm : RepC cy ad ct M) (ho : okM M) (hf : FreeC ct M) (x1 x2 x3 x4 np x6 : Int32) (hnp : np = 0 ∨ np = 1) :
    KX l yX7_cloth [.code yX7_cloth prog_1_method_2_code 7 (some .int)] 6 90 2 12 [.ref (ad 1), .int x1, .int x2, .int x3, .int x4, .int np, .int x6] D s0 ad ct (fun v ad' ct' => ∃ w le sh st pr : Nat, (60 ≤ w ∧ w ≤ 160 ∧ x1 = nI w) ∧ (le ≤ 3000 ∧ x2 = nI le) ∧ (sh ≤ 8 ∧ x3 = nI sh) ∧ (st ≤ 20 ∧ x4 = nI st) ∧ (1 ≤ pr ∧ pr ≤ 9 ∧ x6 = nI pr) ∧ mC M < 4 ∧ v = some (.int (nI (mC M))) ∧ (∀ j, j ≠ 16 + mC M → ad' j = ad j) ∧ ct' (16 + mC M) = some (oCl (FP.i2d (nI w), FP.i2d (nI le), sh, st, np, pr)) ∧ ct' 2 = some (.inl (cy 4, 4, aQ (va_up (kqs ad 16 (mC M)) (mC M) (some (ad' (16 + mC M)))))) ∧ ct' 1 = some (oShop ad (aCl M (FP.i2d (nI w), FP.i2d (nI le), sh, st, np, pr))) ∧ ∀ j, j ≠ 1 → j ≠ 2 → j ≠ 16 + mC M → ct' j = ct j) (fun E => (E = eArg ∧ ((x1 < 60 ∨ 160 < x1) ∨ (x2 < 0 ∨ 3000 < x2) ∨ (x3 < 0 ∨ 8 < x3) ∨ (x4 < 0 ∨ 20 < x4) ∨ (x6 < 1 ∨ 9 < x6))) ∨ (E = eSta ∧ ¬ ((x1 < 60 ∨ 160 < x1) ∨ (x2 < 0 ∨ 3000 < x2) ∨ (x3 < 0 ∨ 8 < x3) ∨ (x4 < 0 ∨ 20 < x4) ∨ (x6 < 1 ∨ 9 < x6)) ∧ mC M = 4)) := by
  refine KX.of G (by decide) (Nat.le_of_ble_eq_true rfl) (Nat.le_of_ble_eq_true rfl) ?_
  intro p e s m args below meth c ls Q hQ X hin hL hW hS
  obtain ⟨hx, hb, hr, hml, hown, hlocks, hts, hq, hK, hI⟩ := X
  have hbn := ho.1.1
  have hs1 := hm.1
  have ha2 := hm.2.1.1
  refine lv_iload_n hx hb dX7_cloth_0 rfl (hL.at 1 rfl) ?_
  refine lv_bipush (v := 60) hx hb dX7_cloth_1 (by decide) ?_
  refine lv_sipush (v := 160) hx hb dX7_cloth_3 (by decide) ?_
  refine k_callS hx hb hml hown hts hI hS hW hL.1 (c_isOutside G x1 60 160) (m4 (gT_in q421 rfl) (gT_in q422 rfl) (gT_in q55 rfl) (gT_in q423 rfl)) (show kpar yX7_isOutside 3 from ⟨by decide, by decide, by decide +kernel⟩) ⟨by decide, by decide⟩ (by show _ ≤ (2 : Nat); omega) (by show _ ≤ (12 : Nat); omega) rfl (by first | decide | exact Nat.le_of_ble_eq_true rfl) dX7_cloth_6 (fun v ad6 ct6 H locs hp hW hS => ?_)
  obtain ⟨rfl, h1, h2⟩ := hp
  rw [h1, h2] at hW
  refine lv_if_ne (tgt := 55) hx hb dX7_cloth_9 (by decide) (fun c9 => ?_) (fun c9 => ?_)
  · try simp only [b2_eq, Decidable.not_not] at c9
    try dsimp only at c9
    have hbad : (x1 < 60 ∨ 160 < x1) ∨ (x2 < 0 ∨ 3000 < x2) ∨ (x3 < 0 ∨ 8 < x3) ∨ (x4 < 0 ∨ 20 < x4) ∨ (x6 < 1 ∨ 9 < x6) := Or.inl (by first | exact c9 | exact Decidable.not_not.mp c9)
    rw [hQ]
    exact k_throw G hx hb hlocks (names := ["java/lang/RuntimeException", "java/lang/Exception"]) hown hts hq hI (by decide) (by decide) (gT_in q220 rfl) (gT_in q64 rfl) 7 rfl (fun w hw => hq w (at_54 w hw).1 (at_54 w hw).2) ot_54 hW hS (hL.1.trans hml.symm) hin dX7_cloth_55 dX7_cloth_58 dX7_cloth_59 dX7_cloth_61 dX7_cloth_64 (by decide) (by decide) (by show _ ≤ (2 : Nat); omega) (by show _ ≤ (12 : Nat); omega) (by omega) (by omega) (by first | exact Or.inl ⟨rfl, hbad⟩ | exact Or.inr ⟨rfl, fun z => z.elim c9 (fun z => z.elim c20 (fun z => z.elim c30 (fun z => z.elim c41 (c52)))), hful⟩)
  · try simp only [b2_eq, Decidable.not_not] at c9
    try dsimp only at c9
    refine lv_iload_n hx hb dX7_cloth_12 rfl (hL.at 2 rfl) ?_
    refine lv_iconst (v := 0) hx hb dX7_cloth_13 (by decide) ?_
    refine lv_sipush (v := 3000) hx hb dX7_cloth_14 (by decide) ?_
    refine k_callS hx hb hml hown hts hI hS hW hL.1 (c_isOutside G x2 0 3000) (m4 (gT_in q421 rfl) (gT_in q422 rfl) (gT_in q55 rfl) (gT_in q423 rfl)) (show kpar yX7_isOutside 3 from ⟨by decide, by decide, by decide +kernel⟩) ⟨by decide, by decide⟩ (by show _ ≤ (2 : Nat); omega) (by show _ ≤ (12 : Nat); omega) rfl (by first | decide | exact Nat.le_of_ble_eq_true rfl) dX7_cloth_17 (fun v ad17 ct17 H locs hp hW hS => ?_)
    obtain ⟨rfl, h1, h2⟩ := hp
    rw [h1, h2] at hW
    refine lv_if_ne (tgt := 55) hx hb dX7_cloth_20 (by decide) (fun c20 => ?_) (fun c20 => ?_)
    · try simp only [b2_eq, Decidable.not_not] at c20
      try dsimp only at c20
      have hbad : (x1 < 60 ∨ 160 < x1) ∨ (x2 < 0 ∨ 3000 < x2) ∨ (x3 < 0 ∨ 8 < x3) ∨ (x4 < 0 ∨ 20 < x4) ∨ (x6 < 1 ∨ 9 < x6) := Or.inr (Or.inl (by first | exact c20 | exact Decidable.not_not.mp c20))
      rw [hQ]
      exact k_throw G hx hb hlocks (names := ["java/lang/RuntimeException", "java/lang/Exception"]) hown hts hq hI (by decide) (by decide) (gT_in q220 rfl) (gT_in q64 rfl) 7 rfl (fun w hw => hq w (at_54 w hw).1 (at_54 w hw).2) ot_54 hW hS (hL.1.trans hml.symm) hin dX7_cloth_55 dX7_cloth_58 dX7_cloth_59 dX7_cloth_61 dX7_cloth_64 (by decide) (by decide) (by show _ ≤ (2 : Nat); omega) (by show _ ≤ (12 : Nat); omega) (by omega) (by omega) (by first | exact Or.inl ⟨rfl, hbad⟩ | exact Or.inr ⟨rfl, fun z => z.elim c9 (fun z => z.elim c20 (fun z => z.elim c30 (fun z => z.elim c41 (c52)))), hful⟩)
    · try simp only [b2_eq, Decidable.not_not] at c20
      try dsimp only at c20
      refine lv_iload_n hx hb dX7_cloth_23 rfl (hL.at 3 rfl) ?_
      refine lv_iconst (v := 0) hx hb dX7_cloth_24 (by decide) ?_
      refine lv_bipush (v := 8) hx hb dX7_cloth_25 (by decide) ?_
      refine k_callS hx hb hml hown hts hI hS hW hL.1 (c_isOutside G x3 0 8) (m4 (gT_in q421 rfl) (gT_in q422 rfl) (gT_in q55 rfl) (gT_in q423 rfl)) (show kpar yX7_isOutside 3 from ⟨by decide, by decide, by decide +kernel⟩) ⟨by decide, by decide⟩ (by show _ ≤ (2 : Nat); omega) (by show _ ≤ (12 : Nat); omega) rfl (by first | decide | exact Nat.le_of_ble_eq_true rfl) dX7_cloth_27 (fun v ad27 ct27 H locs hp hW hS => ?_)
      obtain ⟨rfl, h1, h2⟩ := hp
      rw [h1, h2] at hW
      refine lv_if_ne (tgt := 55) hx hb dX7_cloth_30 (by decide) (fun c30 => ?_) (fun c30 => ?_)
      · try simp only [b2_eq, Decidable.not_not] at c30
        try dsimp only at c30
        have hbad : (x1 < 60 ∨ 160 < x1) ∨ (x2 < 0 ∨ 3000 < x2) ∨ (x3 < 0 ∨ 8 < x3) ∨ (x4 < 0 ∨ 20 < x4) ∨ (x6 < 1 ∨ 9 < x6) := Or.inr (Or.inr (Or.inl (by first | exact c30 | exact Decidable.not_not.mp c30)))
        rw [hQ]
        exact k_throw G hx hb hlocks (names := ["java/lang/RuntimeException", "java/lang/Exception"]) hown hts hq hI (by decide) (by decide) (gT_in q220 rfl) (gT_in q64 rfl) 7 rfl (fun w hw => hq w (at_54 w hw).1 (at_54 w hw).2) ot_54 hW hS (hL.1.trans hml.symm) hin dX7_cloth_55 dX7_cloth_58 dX7_cloth_59 dX7_cloth_61 dX7_cloth_64 (by decide) (by decide) (by show _ ≤ (2 : Nat); omega) (by show _ ≤ (12 : Nat); omega) (by omega) (by omega) (by first | exact Or.inl ⟨rfl, hbad⟩ | exact Or.inr ⟨rfl, fun z => z.elim c9 (fun z => z.elim c20 (fun z => z.elim c30 (fun z => z.elim c41 (c52)))), hful⟩)
      · try simp only [b2_eq, Decidable.not_not] at c30
        try dsimp only at c30
        refine lv_iload hx hb dX7_cloth_33 (hL.at 4 rfl) ?_
        refine lv_iconst (v := 0) hx hb dX7_cloth_35 (by decide) ?_
        refine lv_bipush (v := 20) hx hb dX7_cloth_36 (by decide) ?_
        refine k_callS hx hb hml hown hts hI hS hW hL.1 (c_isOutside G x4 0 20) (m4 (gT_in q421 rfl) (gT_in q422 rfl) (gT_in q55 rfl) (gT_in q423 rfl)) (show kpar yX7_isOutside 3 from ⟨by decide, by decide, by decide +kernel⟩) ⟨by decide, by decide⟩ (by show _ ≤ (2 : Nat); omega) (by show _ ≤ (12 : Nat); omega) rfl (by first | decide | exact Nat.le_of_ble_eq_true rfl) dX7_cloth_38 (fun v ad38 ct38 H locs hp hW hS => ?_)
        obtain ⟨rfl, h1, h2⟩ := hp
        rw [h1, h2] at hW
        refine lv_if_ne (tgt := 55) hx hb dX7_cloth_41 (by decide) (fun c41 => ?_) (fun c41 => ?_)
        · try simp only [b2_eq, Decidable.not_not] at c41
          try dsimp only at c41
          have hbad : (x1 < 60 ∨ 160 < x1) ∨ (x2 < 0 ∨ 3000 < x2) ∨ (x3 < 0 ∨ 8 < x3) ∨ (x4 < 0 ∨ 20 < x4) ∨ (x6 < 1 ∨ 9 < x6) := Or.inr (Or.inr (Or.inr (Or.inl (by first | exact c41 | exact Decidable.not_not.mp c41))))
          rw [hQ]
          exact k_throw G hx hb hlocks (names := ["java/lang/RuntimeException", "java/lang/Exception"]) hown hts hq hI (by decide) (by decide) (gT_in q220 rfl) (gT_in q64 rfl) 7 rfl (fun w hw => hq w (at_54 w hw).1 (at_54 w hw).2) ot_54 hW hS (hL.1.trans hml.symm) hin dX7_cloth_55 dX7_cloth_58 dX7_cloth_59 dX7_cloth_61 dX7_cloth_64 (by decide) (by decide) (by show _ ≤ (2 : Nat); omega) (by show _ ≤ (12 : Nat); omega) (by omega) (by omega) (by first | exact Or.inl ⟨rfl, hbad⟩ | exact Or.inr ⟨rfl, fun z => z.elim c9 (fun z => z.elim c20 (fun z => z.elim c30 (fun z => z.elim c41 (c52)))), hful⟩)
        · try simp only [b2_eq, Decidable.not_not] at c41
          try dsimp only at c41
          refine lv_iload hx hb dX7_cloth_44 (hL.at 6 rfl) ?_
          refine lv_iconst (v := 1) hx hb dX7_cloth_46 (by decide) ?_
          refine lv_bipush (v := 9) hx hb dX7_cloth_47 (by decide) ?_
          refine k_callS hx hb hml hown hts hI hS hW hL.1 (c_isOutside G x6 1 9) (m4 (gT_in q421 rfl) (gT_in q422 rfl) (gT_in q55 rfl) (gT_in q423 rfl)) (show kpar yX7_isOutside 3 from ⟨by decide, by decide, by decide +kernel⟩) ⟨by decide, by decide⟩ (by show _ ≤ (2 : Nat); omega) (by show _ ≤ (12 : Nat); omega) rfl (by first | decide | exact Nat.le_of_ble_eq_true rfl) dX7_cloth_49 (fun v ad49 ct49 H locs hp hW hS => ?_)
          obtain ⟨rfl, h1, h2⟩ := hp
          rw [h1, h2] at hW
          refine lv_if_eq (tgt := 65) hx hb dX7_cloth_52 (by decide) (fun c52 => ?_) (fun c52 => ?_)
          · try simp only [b2_eq, Decidable.not_not] at c52
            try dsimp only at c52
            refine lv_aload_n hx hb dX7_cloth_65 rfl (hL.at 0 rfl) ?_
            refine k_get (ci := 9) (C := RX7) (T := TX7) (N := 15) hx hb hts w_RX7 hown hK hW (by first | assumption | exact up_s | (rw [up_n (by omega)]; first | assumption | exact up_s | (rw [up_n (by omega)]; first | assumption | exact up_s | (rw [up_n (by omega)]; first | assumption | exact up_s | (rw [up_n (by omega)]; first | assumption | exact up_s | (rw [up_n (by omega)]; first | assumption | exact up_s | (rw [up_n (by omega)]; first | assumption | exact up_s | (rw [up_n (by omega)]; first | assumption | exact up_s | (rw [up_n (by omega)]; first | assumption | exact up_s | (rw [up_n (by omega)]; first | assumption | exact up_s | (rw [up_n (by omega)]; first | assumption | exact up_s | (rw [up_n (by omega)]; first | assumption | exact up_s)))))))))))) rfl 6 (by decide) (hq _ q155 rfl) (fun _ h9 => h9) (by rfl) dX7_cloth_66 ?_
            refine lv_iconst (v := 4) hx hb dX7_cloth_69 (by decide) ?_
            refine lv_icmp_lt (tgt := 83) hx hb dX7_cloth_70 (by decide) (fun c70 => ?_) (fun c70 => ?_)
            · try dsimp only at c70
              have hlt : mC M < 4 := (nI_ltI (b := 4) (by omega) (by omega)).mp c70
              obtain ⟨w, hw1, hw2, hxw⟩ := kIn_btw (a := 60) (b := 160) c9 (by decide)
              obtain ⟨le, -, hl2, hxl⟩ := kIn_btw (a := 0) (b := 3000) c20 (by decide)
              obtain ⟨sh, -, hs2, hxs⟩ := kIn_btw (a := 0) (b := 8) c30 (by decide)
              obtain ⟨st, -, ht2, hxt⟩ := kIn_btw (a := 0) (b := 20) c41 (by decide)
              obtain ⟨pr, hp1, hp2, hxp⟩ := kIn_btw (a := 1) (b := 9) c52 (by decide)
              subst hxw
              subst hxl
              subst hxs
              subst hxt
              subst hxp
              refine lv_aload_n hx hb dX7_cloth_83 rfl (hL.at 0 rfl) ?_
              refine k_get (ci := 9) (C := RX7) (T := TX7) (N := 15) hx hb hts w_RX7 hown hK hW (by first | assumption | exact up_s | (rw [up_n (by omega)]; first | assumption | exact up_s | (rw [up_n (by omega)]; first | assumption | exact up_s | (rw [up_n (by omega)]; first | assumption | exact up_s | (rw [up_n (by omega)]; first | assumption | exact up_s | (rw [up_n (by omega)]; first | assumption | exact up_s | (rw [up_n (by omega)]; first | assumption | exact up_s | (rw [up_n (by omega)]; first | assumption | exact up_s | (rw [up_n (by omega)]; first | assumption | exact up_s | (rw [up_n (by omega)]; first | assumption | exact up_s | (rw [up_n (by omega)]; first | assumption | exact up_s | (rw [up_n (by omega)]; first | assumption | exact up_s)))))))))))) rfl 0 (by decide) (hq _ q149 rfl) (fun _ h9 => h9) (by rfl) dX7_cloth_84 ?_
              refine lv_aload_n hx hb dX7_cloth_87 rfl (hL.at 0 rfl) ?_
              refine k_get (ci := 9) (C := RX7) (T := TX7) (N := 15) hx hb hts w_RX7 hown hK hW (by first | assumption | exact up_s | (rw [up_n (by omega)]; first | assumption | exact up_s | (rw [up_n (by omega)]; first | assumption | exact up_s | (rw [up_n (by omega)]; first | assumption | exact up_s | (rw [up_n (by omega)]; first | assumption | exact up_s | (rw [up_n (by omega)]; first | assumption | exact up_s | (rw [up_n (by omega)]; first | assumption | exact up_s | (rw [up_n (by omega)]; first | assumption | exact up_s | (rw [up_n (by omega)]; first | assumption | exact up_s | (rw [up_n (by omega)]; first | assumption | exact up_s | (rw [up_n (by omega)]; first | assumption | exact up_s | (rw [up_n (by omega)]; first | assumption | exact up_s)))))))))))) rfl 6 (by decide) (hq _ q155 rfl) (fun _ h9 => h9) (by rfl) dX7_cloth_88 ?_
              refine k_new (ci := 2) (fs := [.int 0, .int 0, .int 0, .double 0, .double 0, .float 0]) (C := RX0) (T := TX0) (N := 6) hx hb hts w_RX0 tyX0 tyX0_ok hown (hq _ q94 rfl) (hq _ q373 rfl) (hq _ q66 rfl) hK hW hS hI.2.1 rfl (16 + mC M) (hf.1 (mC M) (Nat.le_refl _) hlt) (fun j hj => by rcases (show j = 0 ∨ j = 1 ∨ j = 2 ∨ j = 3 ∨ j = 4 ∨ j = 5 by omega) with rfl | rfl | rfl | rfl | rfl | rfl <;> rfl) (by show _ ≤ (2 : Nat); omega) (by show _ ≤ (12 : Nat); omega) dX7_cloth_91 (fun q91 H hW hS => ?_)
              obtain ⟨ad1, hd91⟩ : ∃ z, z = upA ad (16 + mC M) q91 := ⟨_, rfl⟩
              rw [← hd91] at hW ⊢
              have hdk91 : ∀ j, j ≠ (16 + mC M) → ad1 j = ad j := fun j hj => by rw [hd91]; exact upA_n hj
              rw [← hdk91 1 (by omega)] at hL
              rw [← hdk91 2 (by omega)]
              refine lv_dup hx hb dX7_cloth_94 rfl ?_
              refine lv_iload_n hx hb dX7_cloth_95 rfl (hL.at 1 rfl) ?_
              refine lv_i2d hx hb dX7_cloth_96 ?_
              refine lv_iload_n hx hb dX7_cloth_97 rfl (hL.at 2 rfl) ?_
              refine lv_i2d hx hb dX7_cloth_98 ?_
              refine lv_iload_n hx hb dX7_cloth_99 rfl (hL.at 3 rfl) ?_
              refine lv_i2f hx hb dX7_cloth_100 ?_
              refine lv_ldcf hx hb hown (hq _ q465 rfl) dX7_cloth_101 ?_
              refine lv_fdiv hx hb dX7_cloth_103 (fShr_tab ⟨sh, by omega⟩).2.2 ?_
              refine lv_iload hx hb dX7_cloth_104 (hL.at 4 rfl) ?_
              refine lv_iload hx hb dX7_cloth_106 (hL.at 5 rfl) ?_
              refine lv_iload hx hb dX7_cloth_108 (hL.at 6 rfl) ?_
              refine k_callIN (host := "TailorBench") hx hb hml hown hts hI hS hW hL.1 (c_iCloth G (kz := 16 + mC M) (by omega) up_s _ _ _ _ _ _ hnp) (gT_in q468 rfl) (hq _ q466 rfl) (hq _ q66 rfl) (hq _ q467 rfl) rfl (show kpar yX0_init 6 from ⟨by decide, by decide, by decide +kernel⟩) ⟨by decide, by decide⟩ (by show _ ≤ (2 : Nat); omega) (by show _ ≤ (12 : Nat); omega) rfl (by first | decide | exact Nat.le_of_ble_eq_true rfl) dX7_cloth_110 (fun v ad110 ct110 H locs hp hW hS => ?_)
              obtain ⟨rfl, h1, hv1, hr1⟩ := hp
              rw [h1] at hW
              have hs110 : ct110 1 = some (oShop ad M) := (hr1 1 (by omega)).trans ((up_n (by omega)).trans hs1)
              have ha110 := (hr1 2 (by omega)).trans ((up_n (by omega)).trans ha2)
              refine k_aast hx hb hK hW hS 4 (r := (RX0, TX0, 6)) (by first | assumption | exact up_s | (rw [up_n (by omega)]; first | assumption | exact up_s | (rw [up_n (by omega)]; first | assumption | exact up_s | (rw [up_n (by omega)]; first | assumption | exact up_s | (rw [up_n (by omega)]; first | assumption | exact up_s | (rw [up_n (by omega)]; first | assumption | exact up_s | (rw [up_n (by omega)]; first | assumption | exact up_s | (rw [up_n (by omega)]; first | assumption | exact up_s | (rw [up_n (by omega)]; first | assumption | exact up_s | (rw [up_n (by omega)]; first | assumption | exact up_s | (rw [up_n (by omega)]; first | assumption | exact up_s | (rw [up_n (by omega)]; first | assumption | exact up_s)))))))))))) (by omega) rfl (by first | assumption | exact up_s | (rw [up_n (by omega)]; first | assumption | exact up_s | (rw [up_n (by omega)]; first | assumption | exact up_s | (rw [up_n (by omega)]; first | assumption | exact up_s | (rw [up_n (by omega)]; first | assumption | exact up_s | (rw [up_n (by omega)]; first | assumption | exact up_s | (rw [up_n (by omega)]; first | assumption | exact up_s | (rw [up_n (by omega)]; first | assumption | exact up_s | (rw [up_n (by omega)]; first | assumption | exact up_s | (rw [up_n (by omega)]; first | assumption | exact up_s | (rw [up_n (by omega)]; first | assumption | exact up_s | (rw [up_n (by omega)]; first | assumption | exact up_s)))))))))))) rfl (mC M) hlt (by omega) rfl dX7_cloth_113 (fun H locs hW hS => ?_)
              refine lv_aload_n hx hb dX7_cloth_114 rfl (hL.at 0 rfl) ?_
              refine lv_dup hx hb dX7_cloth_115 rfl ?_
              refine k_get (ci := 9) (C := RX7) (T := TX7) (N := 15) hx hb hts w_RX7 hown hK hW (by first | assumption | exact up_s | (rw [up_n (by omega)]; first | assumption | exact up_s | (rw [up_n (by omega)]; first | assumption | exact up_s | (rw [up_n (by omega)]; first | assumption | exact up_s | (rw [up_n (by omega)]; first | assumption | exact up_s | (rw [up_n (by omega)]; first | assumption | exact up_s | (rw [up_n (by omega)]; first | assumption | exact up_s | (rw [up_n (by omega)]; first | assumption | exact up_s | (rw [up_n (by omega)]; first | assumption | exact up_s | (rw [up_n (by omega)]; first | assumption | exact up_s | (rw [up_n (by omega)]; first | assumption | exact up_s | (rw [up_n (by omega)]; first | assumption | exact up_s)))))))))))) rfl 6 (by decide) (hq _ q155 rfl) (fun _ h9 => h9) (by rfl) dX7_cloth_116 ?_
              refine lv_iconst (v := 1) hx hb dX7_cloth_119 (by decide) ?_
              refine lv_iadd hx hb dX7_cloth_120 ?_
              rw [nI_1]
              refine k_put (ci := 9) (C := RX7) (T := TX7) (N := 15) (ty := tyX7 6) hx hb hts w_RX7 tyX7 tyX7_ok nmX7 hown hK hW hS (by first | assumption | exact up_s | (rw [up_n (by omega)]; first | assumption | exact up_s | (rw [up_n (by omega)]; first | assumption | exact up_s | (rw [up_n (by omega)]; first | assumption | exact up_s | (rw [up_n (by omega)]; first | assumption | exact up_s | (rw [up_n (by omega)]; first | assumption | exact up_s | (rw [up_n (by omega)]; first | assumption | exact up_s | (rw [up_n (by omega)]; first | assumption | exact up_s | (rw [up_n (by omega)]; first | assumption | exact up_s | (rw [up_n (by omega)]; first | assumption | exact up_s | (rw [up_n (by omega)]; first | assumption | exact up_s | (rw [up_n (by omega)]; first | assumption | exact up_s)))))))))))) (by omega) rfl 6 (by decide) (hq _ q155 rfl) (fun _ h9 => h9) rfl (by decide +kernel) rfl rfl (by first | exact Nat.le_of_ble_eq_true rfl | (simp only [List.length_set]; exact Nat.le_of_ble_eq_true rfl)) dX7_cloth_121 (fun H locs hW hS => ?_)
              refine lv_aload_n hx hb dX7_cloth_124 rfl (hL.at 0 rfl) ?_
              refine k_get (ci := 9) (C := RX7) (T := TX7) (N := 15) hx hb hts w_RX7 hown hK hW (by first | assumption | exact up_s | (rw [up_n (by omega)]; first | assumption | exact up_s | (rw [up_n (by omega)]; first | assumption | exact up_s | (rw [up_n (by omega)]; first | assumption | exact up_s | (rw [up_n (by omega)]; first | assumption | exact up_s | (rw [up_n (by omega)]; first | assumption | exact up_s | (rw [up_n (by omega)]; first | assumption | exact up_s | (rw [up_n (by omega)]; first | assumption | exact up_s | (rw [up_n (by omega)]; first | assumption | exact up_s | (rw [up_n (by omega)]; first | assumption | exact up_s | (rw [up_n (by omega)]; first | assumption | exact up_s | (rw [up_n (by omega)]; first | assumption | exact up_s)))))))))))) rfl 6 (by decide) (hq _ q155 rfl) (fun _ h9 => h9) (by rfl) dX7_cloth_125 ?_
              refine lv_iconst (v := 1) hx hb dX7_cloth_128 (by decide) ?_
              refine lv_isub hx hb dX7_cloth_129 ?_
              rw [show nI (mC M + 1) - 1 = nI (mC M) from nI_pred (mC M)]
              rw [hQ]
              exact vx_ret (k_iret hx hb hr hlocks hW hS (by omega) (by omega) dX7_cloth_130 (⟨w, le, sh, st, pr, ⟨hw1, hw2, rfl⟩, ⟨hl2, rfl⟩, ⟨hs2, rfl⟩, ⟨ht2, rfl⟩, ⟨hp1, hp2, rfl⟩, hlt, rfl, hdk91, (up_n (by omega)).trans ((up_n (by omega)).trans (hv1)), (up_n (by omega)).trans (up_s), up_s, fun j a b d => (up_n a).trans ((up_n b).trans ((hr1 j d).trans (up_n d)))⟩))
            · try dsimp only at c70
              have hful : mC M = 4 := by
                have h9 : ¬ mC M < 4 := fun z => c70 (nI_lt (b := 4) z (by decide))
                omega
              rw [hQ]
              exact k_throw G hx hb hlocks (names := ["java/lang/RuntimeException", "java/lang/Exception"]) hown hts hq hI (by decide) (by decide) (gT_in q449 rfl) (gT_in q65 rfl) 8 rfl (fun w hw => hq w (at_65 w hw).1 (at_65 w hw).2) ot_65 hW hS (hL.1.trans hml.symm) hin dX7_cloth_73 dX7_cloth_76 dX7_cloth_77 dX7_cloth_79 dX7_cloth_82 (by decide) (by decide) (by show _ ≤ (2 : Nat); omega) (by show _ ≤ (12 : Nat); omega) (by omega) (by omega) (by first | exact Or.inl ⟨rfl, hbad⟩ | exact Or.inr ⟨rfl, fun z => z.elim c9 (fun z => z.elim c20 (fun z => z.elim c30 (fun z => z.elim c41 (c52)))), hful⟩)
          · try simp only [b2_eq, Decidable.not_not] at c52
            try dsimp only at c52
            have hbad : (x1 < 60 ∨ 160 < x1) ∨ (x2 < 0 ∨ 3000 < x2) ∨ (x3 < 0 ∨ 8 < x3) ∨ (x4 < 0 ∨ 20 < x4) ∨ (x6 < 1 ∨ 9 < x6) := Or.inr (Or.inr (Or.inr (Or.inr (by first | exact c52 | exact Decidable.not_not.mp c52))))
            rw [hQ]
            exact k_throw G hx hb hlocks (names := ["java/lang/RuntimeException", "java/lang/Exception"]) hown hts hq hI (by decide) (by decide) (gT_in q220 rfl) (gT_in q64 rfl) 7 rfl (fun w hw => hq w (at_54 w hw).1 (at_54 w hw).2) ot_54 hW hS (hL.1.trans hml.symm) hin dX7_cloth_55 dX7_cloth_58 dX7_cloth_59 dX7_cloth_61 dX7_cloth_64 (by decide) (by decide) (by show _ ≤ (2 : Nat); omega) (by show _ ≤ (12 : Nat); omega) (by omega) (by omega) (by first | exact Or.inl ⟨rfl, hbad⟩ | exact Or.inr ⟨rfl, fun z => z.elim c9 (fun z => z.elim c20 (fun z => z.elim c30 (fun z => z.elim c41 (c52)))), hful⟩)

set_option maxHeartbeats 8000000 in
set_option maxRecDepth 100000 in
/-- TailorBench.person  -/
theorem c_person {l : Launch} {D : va_G} {cy : Nat → ClassId} {sad : Nat → Nat} {em : Nat} {s0 : State} {a0 : Array Value} (G : kG kSTR l D cy sad em s0 a0) {ad : Nat → Nat} {ct : Nat → Option va_E} {M : tM} (hm : RepC cy ad ct M) (ho : okM M) (hf : FreeC ct M) (x1 x2 x3 x4 : Int32) :
    KX l yX7_person [.code yX7_person prog_1_method_4_code 5 (some .int)] 6 90 2 12 [.ref (ad 1), .int x1, .int x2, .int x3, .int x4] D s0 ad ct (fun v ad' ct' => ∃ w1 w2 w3 w4 : Nat, (50 ≤ w1 ∧ w1 ≤ 200 ∧ x1 = nI w1) ∧ (50 ≤ w2 ∧ w2 ≤ 200 ∧ x2 = nI w2) ∧ (50 ≤ w3 ∧ w3 ≤ 200 ∧ x3 = nI w3) ∧ (50 ≤ w4 ∧ w4 ≤ 200 ∧ x4 = nI w4) ∧ mP M < 6 ∧ v = some (.int (nI (mP M))) ∧ (∀ j, j ≠ 24 + mP M → ad' j = ad j) ∧ ct' (24 + mP M) = some (oPer (nI (mP M)) (fMs w1 w2 w3 w4)) ∧ ct' 3 = some (.inl (cy 5, 6, aQ (va_up (kqs ad 24 (mP M)) (mP M) (some (ad' (24 + mP M)))))) ∧ ct' 1 = some (oShop ad (aPe M (fMs w1 w2 w3 w4))) ∧ ∀ j, j ≠ 1 → j ≠ 3 → j ≠ 24 + mP M → ct' j = ct j) (fun E => (E = eArg ∧ ((x1 < 50 ∨ 200 < x1) ∨ (x2 < 50 ∨ 200 < x2) ∨ (x3 < 50 ∨ 200 < x3) ∨ (x4 < 50 ∨ 200 < x4))) ∨ (E = eSta ∧ ¬ ((x1 < 50 ∨ 200 < x1) ∨ (x2 < 50 ∨ 200 < x2) ∨ (x3 < 50 ∨ 200 < x3) ∨ (x4 < 50 ∨ 200 < x4)) ∧ mP M = 6)) := by
  refine KX.of G (by decide) (Nat.le_of_ble_eq_true rfl) (Nat.le_of_ble_eq_true rfl) ?_
  intro p e s m args below meth c ls Q hQ X hin hL hW hS
  obtain ⟨hx, hb, hr, hml, hown, hlocks, hts, hq, hK, hI⟩ := X
  have hbn := ho.1.2.1
  have hs1 := hm.1
  have ha3 := hm.2.1.2.1
  refine lv_iload_n hx hb dX7_person_0 rfl (hL.at 1 rfl) ?_
  refine k_callS hx hb hml hown hts hI hS hW hL.1 (c_isNoMeasure G x1) (m4 (gT_in q514 rfl) (gT_in q515 rfl) (gT_in q55 rfl) (gT_in q516 rfl)) (show kpar yX7_isNoMeasure 1 from ⟨by decide, by decide, by decide +kernel⟩) ⟨by decide, by decide⟩ (by show _ ≤ (2 : Nat); omega) (by show _ ≤ (12 : Nat); omega) rfl (by first | decide | exact Nat.le_of_ble_eq_true rfl) dX7_person_1 (fun v ad1 ct1 H locs hp hW hS => ?_)
  obtain ⟨rfl, h1, h2⟩ := hp
  rw [h1, h2] at hW
  refine lv_if_ne (tgt := 29) hx hb dX7_person_4 (by decide) (fun c4 => ?_) (fun c4 => ?_)
  · try simp only [b2_eq, Decidable.not_not] at c4
    try dsimp only at c4
    have hbad : (x1 < 50 ∨ 200 < x1) ∨ (x2 < 50 ∨ 200 < x2) ∨ (x3 < 50 ∨ 200 < x3) ∨ (x4 < 50 ∨ 200 < x4) := Or.inl (by first | exact c4 | exact Decidable.not_not.mp c4)
    rw [hQ]
    exact k_throw G hx hb hlocks (names := ["java/lang/RuntimeException", "java/lang/Exception"]) hown hts hq hI (by decide) (by decide) (gT_in q220 rfl) (gT_in q64 rfl) 9 rfl (fun w hw => hq w (at_54 w hw).1 (at_54 w hw).2) ot_54 hW hS (hL.1.trans hml.symm) hin dX7_person_29 dX7_person_32 dX7_person_33 dX7_person_35 dX7_person_38 (by decide) (by decide) (by show _ ≤ (2 : Nat); omega) (by show _ ≤ (12 : Nat); omega) (by omega) (by omega) (by first | exact Or.inl ⟨rfl, hbad⟩ | exact Or.inr ⟨rfl, fun z => z.elim c4 (fun z => z.elim c11 (fun z => z.elim c18 (c26))), hful⟩)
  · try simp only [b2_eq, Decidable.not_not] at c4
    try dsimp only at c4
    refine lv_iload_n hx hb dX7_person_7 rfl (hL.at 2 rfl) ?_
    refine k_callS hx hb hml hown hts hI hS hW hL.1 (c_isNoMeasure G x2) (m4 (gT_in q514 rfl) (gT_in q515 rfl) (gT_in q55 rfl) (gT_in q516 rfl)) (show kpar yX7_isNoMeasure 1 from ⟨by decide, by decide, by decide +kernel⟩) ⟨by decide, by decide⟩ (by show _ ≤ (2 : Nat); omega) (by show _ ≤ (12 : Nat); omega) rfl (by first | decide | exact Nat.le_of_ble_eq_true rfl) dX7_person_8 (fun v ad8 ct8 H locs hp hW hS => ?_)
    obtain ⟨rfl, h1, h2⟩ := hp
    rw [h1, h2] at hW
    refine lv_if_ne (tgt := 29) hx hb dX7_person_11 (by decide) (fun c11 => ?_) (fun c11 => ?_)
    · try simp only [b2_eq, Decidable.not_not] at c11
      try dsimp only at c11
      have hbad : (x1 < 50 ∨ 200 < x1) ∨ (x2 < 50 ∨ 200 < x2) ∨ (x3 < 50 ∨ 200 < x3) ∨ (x4 < 50 ∨ 200 < x4) := Or.inr (Or.inl (by first | exact c11 | exact Decidable.not_not.mp c11))
      rw [hQ]
      exact k_throw G hx hb hlocks (names := ["java/lang/RuntimeException", "java/lang/Exception"]) hown hts hq hI (by decide) (by decide) (gT_in q220 rfl) (gT_in q64 rfl) 9 rfl (fun w hw => hq w (at_54 w hw).1 (at_54 w hw).2) ot_54 hW hS (hL.1.trans hml.symm) hin dX7_person_29 dX7_person_32 dX7_person_33 dX7_person_35 dX7_person_38 (by decide) (by decide) (by show _ ≤ (2 : Nat); omega) (by show _ ≤ (12 : Nat); omega) (by omega) (by omega) (by first | exact Or.inl ⟨rfl, hbad⟩ | exact Or.inr ⟨rfl, fun z => z.elim c4 (fun z => z.elim c11 (fun z => z.elim c18 (c26))), hful⟩)
    · try simp only [b2_eq, Decidable.not_not] at c11
      try dsimp only at c11
      refine lv_iload_n hx hb dX7_person_14 rfl (hL.at 3 rfl) ?_
      refine k_callS hx hb hml hown hts hI hS hW hL.1 (c_isNoMeasure G x3) (m4 (gT_in q514 rfl) (gT_in q515 rfl) (gT_in q55 rfl) (gT_in q516 rfl)) (show kpar yX7_isNoMeasure 1 from ⟨by decide, by decide, by decide +kernel⟩) ⟨by decide, by decide⟩ (by show _ ≤ (2 : Nat); omega) (by show _ ≤ (12 : Nat); omega) rfl (by first | decide | exact Nat.le_of_ble_eq_true rfl) dX7_person_15 (fun v ad15 ct15 H locs hp hW hS => ?_)
      obtain ⟨rfl, h1, h2⟩ := hp
      rw [h1, h2] at hW
      refine lv_if_ne (tgt := 29) hx hb dX7_person_18 (by decide) (fun c18 => ?_) (fun c18 => ?_)
      · try simp only [b2_eq, Decidable.not_not] at c18
        try dsimp only at c18
        have hbad : (x1 < 50 ∨ 200 < x1) ∨ (x2 < 50 ∨ 200 < x2) ∨ (x3 < 50 ∨ 200 < x3) ∨ (x4 < 50 ∨ 200 < x4) := Or.inr (Or.inr (Or.inl (by first | exact c18 | exact Decidable.not_not.mp c18)))
        rw [hQ]
        exact k_throw G hx hb hlocks (names := ["java/lang/RuntimeException", "java/lang/Exception"]) hown hts hq hI (by decide) (by decide) (gT_in q220 rfl) (gT_in q64 rfl) 9 rfl (fun w hw => hq w (at_54 w hw).1 (at_54 w hw).2) ot_54 hW hS (hL.1.trans hml.symm) hin dX7_person_29 dX7_person_32 dX7_person_33 dX7_person_35 dX7_person_38 (by decide) (by decide) (by show _ ≤ (2 : Nat); omega) (by show _ ≤ (12 : Nat); omega) (by omega) (by omega) (by first | exact Or.inl ⟨rfl, hbad⟩ | exact Or.inr ⟨rfl, fun z => z.elim c4 (fun z => z.elim c11 (fun z => z.elim c18 (c26))), hful⟩)
      · try simp only [b2_eq, Decidable.not_not] at c18
        try dsimp only at c18
        refine lv_iload hx hb dX7_person_21 (hL.at 4 rfl) ?_
        refine k_callS hx hb hml hown hts hI hS hW hL.1 (c_isNoMeasure G x4) (m4 (gT_in q514 rfl) (gT_in q515 rfl) (gT_in q55 rfl) (gT_in q516 rfl)) (show kpar yX7_isNoMeasure 1 from ⟨by decide, by decide, by decide +kernel⟩) ⟨by decide, by decide⟩ (by show _ ≤ (2 : Nat); omega) (by show _ ≤ (12 : Nat); omega) rfl (by first | decide | exact Nat.le_of_ble_eq_true rfl) dX7_person_23 (fun v ad23 ct23 H locs hp hW hS => ?_)
        obtain ⟨rfl, h1, h2⟩ := hp
        rw [h1, h2] at hW
        refine lv_if_eq (tgt := 39) hx hb dX7_person_26 (by decide) (fun c26 => ?_) (fun c26 => ?_)
        · try simp only [b2_eq, Decidable.not_not] at c26
          try dsimp only at c26
          refine lv_aload_n hx hb dX7_person_39 rfl (hL.at 0 rfl) ?_
          refine k_get (ci := 9) (C := RX7) (T := TX7) (N := 15) hx hb hts w_RX7 hown hK hW (by first | assumption | exact up_s | (rw [up_n (by omega)]; first | assumption | exact up_s | (rw [up_n (by omega)]; first | assumption | exact up_s | (rw [up_n (by omega)]; first | assumption | exact up_s | (rw [up_n (by omega)]; first | assumption | exact up_s | (rw [up_n (by omega)]; first | assumption | exact up_s | (rw [up_n (by omega)]; first | assumption | exact up_s | (rw [up_n (by omega)]; first | assumption | exact up_s | (rw [up_n (by omega)]; first | assumption | exact up_s | (rw [up_n (by omega)]; first | assumption | exact up_s | (rw [up_n (by omega)]; first | assumption | exact up_s | (rw [up_n (by omega)]; first | assumption | exact up_s)))))))))))) rfl 7 (by decide) (hq _ q156 rfl) (fun _ h9 => h9) (by rfl) dX7_person_40 ?_
          refine lv_bipush (v := 6) hx hb dX7_person_43 (by decide) ?_
          refine lv_icmp_lt (tgt := 58) hx hb dX7_person_45 (by decide) (fun c45 => ?_) (fun c45 => ?_)
          · try dsimp only at c45
            have hlt : mP M < 6 := (nI_ltI (b := 6) (by omega) (by omega)).mp c45
            obtain ⟨w1, hwa1, hwb1, hx1⟩ := kIn_btw (a := 50) (b := 200) c4 (by decide)
            obtain ⟨w2, hwa2, hwb2, hx2⟩ := kIn_btw (a := 50) (b := 200) c11 (by decide)
            obtain ⟨w3, hwa3, hwb3, hx3⟩ := kIn_btw (a := 50) (b := 200) c18 (by decide)
            obtain ⟨w4, hwa4, hwb4, hx4⟩ := kIn_btw (a := 50) (b := 200) c26 (by decide)
            subst hx1
            subst hx2
            subst hx3
            subst hx4
            refine lv_aload_n hx hb dX7_person_58 rfl (hL.at 0 rfl) ?_
            refine k_get (ci := 9) (C := RX7) (T := TX7) (N := 15) hx hb hts w_RX7 hown hK hW (by first | assumption | exact up_s | (rw [up_n (by omega)]; first | assumption | exact up_s | (rw [up_n (by omega)]; first | assumption | exact up_s | (rw [up_n (by omega)]; first | assumption | exact up_s | (rw [up_n (by omega)]; first | assumption | exact up_s | (rw [up_n (by omega)]; first | assumption | exact up_s | (rw [up_n (by omega)]; first | assumption | exact up_s | (rw [up_n (by omega)]; first | assumption | exact up_s | (rw [up_n (by omega)]; first | assumption | exact up_s | (rw [up_n (by omega)]; first | assumption | exact up_s | (rw [up_n (by omega)]; first | assumption | exact up_s | (rw [up_n (by omega)]; first | assumption | exact up_s)))))))))))) rfl 1 (by decide) (hq _ q150 rfl) (fun _ h9 => h9) (by rfl) dX7_person_59 ?_
            refine lv_aload_n hx hb dX7_person_62 rfl (hL.at 0 rfl) ?_
            refine k_get (ci := 9) (C := RX7) (T := TX7) (N := 15) hx hb hts w_RX7 hown hK hW (by first | assumption | exact up_s | (rw [up_n (by omega)]; first | assumption | exact up_s | (rw [up_n (by omega)]; first | assumption | exact up_s | (rw [up_n (by omega)]; first | assumption | exact up_s | (rw [up_n (by omega)]; first | assumption | exact up_s | (rw [up_n (by omega)]; first | assumption | exact up_s | (rw [up_n (by omega)]; first | assumption | exact up_s | (rw [up_n (by omega)]; first | assumption | exact up_s | (rw [up_n (by omega)]; first | assumption | exact up_s | (rw [up_n (by omega)]; first | assumption | exact up_s | (rw [up_n (by omega)]; first | assumption | exact up_s | (rw [up_n (by omega)]; first | assumption | exact up_s)))))))))))) rfl 7 (by decide) (hq _ q156 rfl) (fun _ h9 => h9) (by rfl) dX7_person_63 ?_
            refine k_new (ci := 5) (fs := [.int 0, .int 0, .int 0, .int 0, .int 0]) (C := RX3) (T := TX3) (N := 5) hx hb hts w_RX3 tyX3 tyX3_ok hown (hq _ q96 rfl) (hq _ q351 rfl) (hq _ q75 rfl) hK hW hS hI.2.1 rfl (24 + mP M) (hf.2.1 (mP M) (Nat.le_refl _) hlt) (fun j hj => by rcases (show j = 0 ∨ j = 1 ∨ j = 2 ∨ j = 3 ∨ j = 4 by omega) with rfl | rfl | rfl | rfl | rfl <;> rfl) (by show _ ≤ (2 : Nat); omega) (by show _ ≤ (12 : Nat); omega) dX7_person_66 (fun q66 H hW hS => ?_)
            obtain ⟨ad1, hd66⟩ : ∃ z, z = upA ad (24 + mP M) q66 := ⟨_, rfl⟩
            rw [← hd66] at hW ⊢
            have hdk66 : ∀ j, j ≠ (24 + mP M) → ad1 j = ad j := fun j hj => by rw [hd66]; exact upA_n hj
            rw [← hdk66 1 (by omega)] at hL
            rw [← hdk66 3 (by omega)]
            refine lv_dup hx hb dX7_person_69 rfl ?_
            refine lv_aload_n hx hb dX7_person_70 rfl (hL.at 0 rfl) ?_
            refine k_get (ci := 9) (C := RX7) (T := TX7) (N := 15) hx hb hts w_RX7 hown hK hW (by first | assumption | exact up_s | (rw [up_n (by omega)]; first | assumption | exact up_s | (rw [up_n (by omega)]; first | assumption | exact up_s | (rw [up_n (by omega)]; first | assumption | exact up_s | (rw [up_n (by omega)]; first | assumption | exact up_s | (rw [up_n (by omega)]; first | assumption | exact up_s | (rw [up_n (by omega)]; first | assumption | exact up_s | (rw [up_n (by omega)]; first | assumption | exact up_s | (rw [up_n (by omega)]; first | assumption | exact up_s | (rw [up_n (by omega)]; first | assumption | exact up_s | (rw [up_n (by omega)]; first | assumption | exact up_s | (rw [up_n (by omega)]; first | assumption | exact up_s)))))))))))) rfl 7 (by decide) (hq _ q156 rfl) (fun _ h9 => h9) (by rfl) dX7_person_71 ?_
            refine lv_iload_n hx hb dX7_person_74 rfl (hL.at 1 rfl) ?_
            refine lv_iload_n hx hb dX7_person_75 rfl (hL.at 2 rfl) ?_
            refine lv_iload_n hx hb dX7_person_76 rfl (hL.at 3 rfl) ?_
            refine lv_iload hx hb dX7_person_77 (hL.at 4 rfl) ?_
            refine k_callIN (host := "TailorBench") hx hb hml hown hts hI hS hW hL.1 (c_iPerson G (kz := 24 + mP M) (by omega) up_s _ _ _ _ _) (gT_in q521 rfl) (hq _ q519 rfl) (hq _ q75 rfl) (hq _ q520 rfl) rfl (show kpar yX3_init 5 from ⟨by decide, by decide, by decide +kernel⟩) ⟨by decide, by decide⟩ (by show _ ≤ (2 : Nat); omega) (by show _ ≤ (12 : Nat); omega) rfl (by first | decide | exact Nat.le_of_ble_eq_true rfl) dX7_person_79 (fun v ad79 ct79 H locs hp hW hS => ?_)
            obtain ⟨rfl, h1, hv1, hr1⟩ := hp
            rw [h1] at hW
            have hs79 : ct79 1 = some (oShop ad M) := (hr1 1 (by omega)).trans ((up_n (by omega)).trans hs1)
            have ha79 := (hr1 3 (by omega)).trans ((up_n (by omega)).trans ha3)
            refine k_aast hx hb hK hW hS 5 (r := (RX3, TX3, 5)) (by first | assumption | exact up_s | (rw [up_n (by omega)]; first | assumption | exact up_s | (rw [up_n (by omega)]; first | assumption | exact up_s | (rw [up_n (by omega)]; first | assumption | exact up_s | (rw [up_n (by omega)]; first | assumption | exact up_s | (rw [up_n (by omega)]; first | assumption | exact up_s | (rw [up_n (by omega)]; first | assumption | exact up_s | (rw [up_n (by omega)]; first | assumption | exact up_s | (rw [up_n (by omega)]; first | assumption | exact up_s | (rw [up_n (by omega)]; first | assumption | exact up_s | (rw [up_n (by omega)]; first | assumption | exact up_s | (rw [up_n (by omega)]; first | assumption | exact up_s)))))))))))) (by omega) rfl (by first | assumption | exact up_s | (rw [up_n (by omega)]; first | assumption | exact up_s | (rw [up_n (by omega)]; first | assumption | exact up_s | (rw [up_n (by omega)]; first | assumption | exact up_s | (rw [up_n (by omega)]; first | assumption | exact up_s | (rw [up_n (by omega)]; first | assumption | exact up_s | (rw [up_n (by omega)]; first | assumption | exact up_s | (rw [up_n (by omega)]; first | assumption | exact up_s | (rw [up_n (by omega)]; first | assumption | exact up_s | (rw [up_n (by omega)]; first | assumption | exact up_s | (rw [up_n (by omega)]; first | assumption | exact up_s | (rw [up_n (by omega)]; first | assumption | exact up_s)))))))))))) rfl (mP M) hlt (by omega) rfl dX7_person_82 (fun H locs hW hS => ?_)
            refine lv_aload_n hx hb dX7_person_83 rfl (hL.at 0 rfl) ?_
            refine lv_dup hx hb dX7_person_84 rfl ?_
            refine k_get (ci := 9) (C := RX7) (T := TX7) (N := 15) hx hb hts w_RX7 hown hK hW (by first | assumption | exact up_s | (rw [up_n (by omega)]; first | assumption | exact up_s | (rw [up_n (by omega)]; first | assumption | exact up_s | (rw [up_n (by omega)]; first | assumption | exact up_s | (rw [up_n (by omega)]; first | assumption | exact up_s | (rw [up_n (by omega)]; first | assumption | exact up_s | (rw [up_n (by omega)]; first | assumption | exact up_s | (rw [up_n (by omega)]; first | assumption | exact up_s | (rw [up_n (by omega)]; first | assumption | exact up_s | (rw [up_n (by omega)]; first | assumption | exact up_s | (rw [up_n (by omega)]; first | assumption | exact up_s | (rw [up_n (by omega)]; first | assumption | exact up_s)))))))))))) rfl 7 (by decide) (hq _ q156 rfl) (fun _ h9 => h9) (by rfl) dX7_person_85 ?_
            refine lv_iconst (v := 1) hx hb dX7_person_88 (by decide) ?_
            refine lv_iadd hx hb dX7_person_89 ?_
            rw [nI_1]
            refine k_put (ci := 9) (C := RX7) (T := TX7) (N := 15) (ty := tyX7 7) hx hb hts w_RX7 tyX7 tyX7_ok nmX7 hown hK hW hS (by first | assumption | exact up_s | (rw [up_n (by omega)]; first | assumption | exact up_s | (rw [up_n (by omega)]; first | assumption | exact up_s | (rw [up_n (by omega)]; first | assumption | exact up_s | (rw [up_n (by omega)]; first | assumption | exact up_s | (rw [up_n (by omega)]; first | assumption | exact up_s | (rw [up_n (by omega)]; first | assumption | exact up_s | (rw [up_n (by omega)]; first | assumption | exact up_s | (rw [up_n (by omega)]; first | assumption | exact up_s | (rw [up_n (by omega)]; first | assumption | exact up_s | (rw [up_n (by omega)]; first | assumption | exact up_s | (rw [up_n (by omega)]; first | assumption | exact up_s)))))))))))) (by omega) rfl 7 (by decide) (hq _ q156 rfl) (fun _ h9 => h9) rfl (by decide +kernel) rfl rfl (by first | exact Nat.le_of_ble_eq_true rfl | (simp only [List.length_set]; exact Nat.le_of_ble_eq_true rfl)) dX7_person_90 (fun H locs hW hS => ?_)
            refine lv_aload_n hx hb dX7_person_93 rfl (hL.at 0 rfl) ?_
            refine k_get (ci := 9) (C := RX7) (T := TX7) (N := 15) hx hb hts w_RX7 hown hK hW (by first | assumption | exact up_s | (rw [up_n (by omega)]; first | assumption | exact up_s | (rw [up_n (by omega)]; first | assumption | exact up_s | (rw [up_n (by omega)]; first | assumption | exact up_s | (rw [up_n (by omega)]; first | assumption | exact up_s | (rw [up_n (by omega)]; first | assumption | exact up_s | (rw [up_n (by omega)]; first | assumption | exact up_s | (rw [up_n (by omega)]; first | assumption | exact up_s | (rw [up_n (by omega)]; first | assumption | exact up_s | (rw [up_n (by omega)]; first | assumption | exact up_s | (rw [up_n (by omega)]; first | assumption | exact up_s | (rw [up_n (by omega)]; first | assumption | exact up_s)))))))))))) rfl 7 (by decide) (hq _ q156 rfl) (fun _ h9 => h9) (by rfl) dX7_person_94 ?_
            refine lv_iconst (v := 1) hx hb dX7_person_97 (by decide) ?_
            refine lv_isub hx hb dX7_person_98 ?_
            rw [show nI (mP M + 1) - 1 = nI (mP M) from nI_pred (mP M)]
            rw [hQ]
            exact vx_ret (k_iret hx hb hr hlocks hW hS (by omega) (by omega) dX7_person_99 (⟨w1, w2, w3, w4, ⟨hwa1, hwb1, rfl⟩, ⟨hwa2, hwb2, rfl⟩, ⟨hwa3, hwb3, rfl⟩, ⟨hwa4, hwb4, rfl⟩, hlt, rfl, hdk66, (up_n (by omega)).trans ((up_n (by omega)).trans (hv1)), (up_n (by omega)).trans (up_s), up_s, fun j a b d => (up_n a).trans ((up_n b).trans ((hr1 j d).trans (up_n d)))⟩))
          · try dsimp only at c45
            have hful : mP M = 6 := by
              have h9 : ¬ mP M < 6 := fun z => c45 (nI_lt (b := 6) z (by decide))
              omega
            rw [hQ]
            exact k_throw G hx hb hlocks (names := ["java/lang/RuntimeException", "java/lang/Exception"]) hown hts hq hI (by decide) (by decide) (gT_in q449 rfl) (gT_in q65 rfl) 10 rfl (fun w hw => hq w (at_65 w hw).1 (at_65 w hw).2) ot_65 hW hS (hL.1.trans hml.symm) hin dX7_person_48 dX7_person_51 dX7_person_52 dX7_person_54 dX7_person_57 (by decide) (by decide) (by show _ ≤ (2 : Nat); omega) (by show _ ≤ (12 : Nat); omega) (by omega) (by omega) (by first | exact Or.inl ⟨rfl, hbad⟩ | exact Or.inr ⟨rfl, fun z => z.elim c4 (fun z => z.elim c11 (fun z => z.elim c18 (c26))), hful⟩)
        · try simp only [b2_eq, Decidable.not_not] at c26
          try dsimp only at c26
          have hbad : (x1 < 50 ∨ 200 < x1) ∨ (x2 < 50 ∨ 200 < x2) ∨ (x3 < 50 ∨ 200 < x3) ∨ (x4 < 50 ∨ 200 < x4) := Or.inr (Or.inr (Or.inr (by first | exact c26 | exact Decidable.not_not.mp c26)))
          rw [hQ]
          exact k_throw G hx hb hlocks (names := ["java/lang/RuntimeException", "java/lang/Exception"]) hown hts hq hI (by decide) (by decide) (gT_in q220 rfl) (gT_in q64 rfl) 9 rfl (fun w hw => hq w (at_54 w hw).1 (at_54 w hw).2) ot_54 hW hS (hL.1.trans hml.symm) hin dX7_person_29 dX7_person_32 dX7_person_33 dX7_person_35 dX7_person_38 (by decide) (by decide) (by show _ ≤ (2 : Nat); omega) (by show _ ≤ (12 : Nat); omega) (by omega) (by omega) (by first | exact Or.inl ⟨rfl, hbad⟩ | exact Or.inr ⟨rfl, fun z => z.elim c4 (fun z => z.elim c11 (fun z => z.elim c18 (c26))), hful⟩)

set_option maxHeartbeats 8000000 in
set_option maxRecDepth 100000 in
/-- TailorBench.style  -/
theorem c_style {l : Launch} {D : va_G} {cy : Nat → ClassId} {sad : Nat → Nat} {em : Nat} {s0 : State} {a0 : Array Value} (G : kG kSTR l D cy sad em s0 a0) {ad : Nat → Nat} {ct : Nat → Option va_E} {M : tM} (hm : RepC cy ad ct M) (ho : okM M) (hf : FreeC ct M)  :
    KX l yX7_style [.code yX7_style prog_1_method_6_code 1 (some .int)] 6 90 2 12 [.ref (ad 1)] D s0 ad ct (fun v ad' ct' => mS M < 3 ∧ v = some (.int (nI (mS M))) ∧ (∀ j, j ≠ 32 + mS M → j ≠ 36 + mS M → ad' j = ad j) ∧ ct' (32 + mS M) = some (oSt ad' (mS M) zSt) ∧ ct' (36 + mS M) = some (.inl (cy 9, 5, aQ (fun _ => none))) ∧ ct' 4 = some (.inl (cy 6, 3, aQ (va_up (kqs ad 32 (mS M)) (mS M) (some (ad' (32 + mS M)))))) ∧ ct' 1 = some (oShop ad (aSt M zSt)) ∧ ∀ j, j ≠ 1 → j ≠ 4 → j ≠ 32 + mS M → j ≠ 36 + mS M → ct' j = ct j) (fun E => E = eSta ∧ mS M = 3) := by
  refine KX.of G (by decide) (Nat.le_of_ble_eq_true rfl) (Nat.le_of_ble_eq_true rfl) ?_
  intro p e s m args below meth c ls Q hQ X hin hL hW hS
  obtain ⟨hx, hb, hr, hml, hown, hlocks, hts, hq, hK, hI⟩ := X
  have hbn := ho.1.2.2.1
  have hs1 := hm.1
  have ha4 := hm.2.1.2.2.1
  refine lv_aload_n hx hb dX7_style_0 rfl (hL.at 0 rfl) ?_
  refine k_get (ci := 9) (C := RX7) (T := TX7) (N := 15) hx hb hts w_RX7 hown hK hW (by first | assumption | exact up_s | (rw [up_n (by omega)]; first | assumption | exact up_s | (rw [up_n (by omega)]; first | assumption | exact up_s | (rw [up_n (by omega)]; first | assumption | exact up_s | (rw [up_n (by omega)]; first | assumption | exact up_s | (rw [up_n (by omega)]; first | assumption | exact up_s | (rw [up_n (by omega)]; first | assumption | exact up_s | (rw [up_n (by omega)]; first | assumption | exact up_s | (rw [up_n (by omega)]; first | assumption | exact up_s | (rw [up_n (by omega)]; first | assumption | exact up_s | (rw [up_n (by omega)]; first | assumption | exact up_s | (rw [up_n (by omega)]; first | assumption | exact up_s)))))))))))) rfl 8 (by decide) (hq _ q157 rfl) (fun _ h9 => h9) (by rfl) dX7_style_1 ?_
  refine lv_iconst (v := 3) hx hb dX7_style_4 (by decide) ?_
  refine lv_icmp_lt (tgt := 18) hx hb dX7_style_5 (by decide) (fun c5 => ?_) (fun c5 => ?_)
  · try dsimp only at c5
    have hlt : mS M < 3 := (nI_ltI (b := 3) (by omega) (by omega)).mp c5
    refine lv_aload_n hx hb dX7_style_18 rfl (hL.at 0 rfl) ?_
    refine k_get (ci := 9) (C := RX7) (T := TX7) (N := 15) hx hb hts w_RX7 hown hK hW (by first | assumption | exact up_s | (rw [up_n (by omega)]; first | assumption | exact up_s | (rw [up_n (by omega)]; first | assumption | exact up_s | (rw [up_n (by omega)]; first | assumption | exact up_s | (rw [up_n (by omega)]; first | assumption | exact up_s | (rw [up_n (by omega)]; first | assumption | exact up_s | (rw [up_n (by omega)]; first | assumption | exact up_s | (rw [up_n (by omega)]; first | assumption | exact up_s | (rw [up_n (by omega)]; first | assumption | exact up_s | (rw [up_n (by omega)]; first | assumption | exact up_s | (rw [up_n (by omega)]; first | assumption | exact up_s | (rw [up_n (by omega)]; first | assumption | exact up_s)))))))))))) rfl 2 (by decide) (hq _ q151 rfl) (fun _ h9 => h9) (by rfl) dX7_style_19 ?_
    refine lv_aload_n hx hb dX7_style_22 rfl (hL.at 0 rfl) ?_
    refine k_get (ci := 9) (C := RX7) (T := TX7) (N := 15) hx hb hts w_RX7 hown hK hW (by first | assumption | exact up_s | (rw [up_n (by omega)]; first | assumption | exact up_s | (rw [up_n (by omega)]; first | assumption | exact up_s | (rw [up_n (by omega)]; first | assumption | exact up_s | (rw [up_n (by omega)]; first | assumption | exact up_s | (rw [up_n (by omega)]; first | assumption | exact up_s | (rw [up_n (by omega)]; first | assumption | exact up_s | (rw [up_n (by omega)]; first | assumption | exact up_s | (rw [up_n (by omega)]; first | assumption | exact up_s | (rw [up_n (by omega)]; first | assumption | exact up_s | (rw [up_n (by omega)]; first | assumption | exact up_s | (rw [up_n (by omega)]; first | assumption | exact up_s)))))))))))) rfl 8 (by decide) (hq _ q157 rfl) (fun _ h9 => h9) (by rfl) dX7_style_23 ?_
    refine k_new (ci := 7) (fs := [.int 0, .null, .int 0, .int 0, .int 0]) (C := RX5) (T := TX5) (N := 5) hx hb hts w_RX5 tyX5 tyX5_ok hown (hq _ q98 rfl) (hq _ q566 rfl) (hq _ q76 rfl) hK hW hS hI.2.1 rfl (32 + mS M) (hf.2.2.1 (mS M) (Nat.le_refl _) hlt).1 (fun j hj => by rcases (show j = 0 ∨ j = 1 ∨ j = 2 ∨ j = 3 ∨ j = 4 by omega) with rfl | rfl | rfl | rfl | rfl <;> rfl) (by show _ ≤ (2 : Nat); omega) (by show _ ≤ (12 : Nat); omega) dX7_style_26 (fun q26 H hW hS => ?_)
    obtain ⟨ad1, hd26⟩ : ∃ z, z = upA ad (32 + mS M) q26 := ⟨_, rfl⟩
    rw [← hd26] at hW ⊢
    have hdk26 : ∀ j, j ≠ (32 + mS M) → ad1 j = ad j := fun j hj => by rw [hd26]; exact upA_n hj
    rw [← hdk26 1 (by omega)] at hL
    rw [← hdk26 4 (by omega)]
    refine lv_dup hx hb dX7_style_29 rfl ?_
    refine lv_aload_n hx hb dX7_style_30 rfl (hL.at 0 rfl) ?_
    refine k_get (ci := 9) (C := RX7) (T := TX7) (N := 15) hx hb hts w_RX7 hown hK hW (by first | assumption | exact up_s | (rw [up_n (by omega)]; first | assumption | exact up_s | (rw [up_n (by omega)]; first | assumption | exact up_s | (rw [up_n (by omega)]; first | assumption | exact up_s | (rw [up_n (by omega)]; first | assumption | exact up_s | (rw [up_n (by omega)]; first | assumption | exact up_s | (rw [up_n (by omega)]; first | assumption | exact up_s | (rw [up_n (by omega)]; first | assumption | exact up_s | (rw [up_n (by omega)]; first | assumption | exact up_s | (rw [up_n (by omega)]; first | assumption | exact up_s | (rw [up_n (by omega)]; first | assumption | exact up_s | (rw [up_n (by omega)]; first | assumption | exact up_s)))))))))))) rfl 8 (by decide) (hq _ q157 rfl) (fun _ h9 => h9) (by rfl) dX7_style_31 ?_
    refine k_callIN (host := "TailorBench") hx hb hml hown hts hI hS hW hL.1 (c_iStyle G (kz := 32 + mS M) (kq := 36 + mS M) (by omega) (by omega) up_s ((up_n (by omega)).trans (hf.2.2.1 (mS M) (Nat.le_refl _) hlt).2) _) (gT_in q569 rfl) (hq _ q567 rfl) (hq _ q76 rfl) (hq _ q568 rfl) rfl (show kpar yX5_init 1 from ⟨by decide, by decide, by decide +kernel⟩) ⟨by decide, by decide⟩ (by show _ ≤ (2 : Nat); omega) (by show _ ≤ (12 : Nat); omega) rfl (by first | decide | exact Nat.le_of_ble_eq_true rfl) dX7_style_34 (fun v ad34 ct34 H locs hp hW hS => ?_)
    obtain ⟨rfl, hda, hv1, hv2, hr1⟩ := hp
    rw [← hda 1 (by omega)] at hL
    rw [← hda (32 + mS M) (by omega), ← hda 4 (by omega)]
    have hs34 : ct34 1 = some (oShop ad M) := (hr1 1 (by omega) (by omega)).trans ((up_n (by omega)).trans hs1)
    have ha34 := (hr1 4 (by omega) (by omega)).trans ((up_n (by omega)).trans ha4)
    refine k_aast hx hb hK hW hS 6 (r := (RX5, TX5, 5)) (by first | assumption | exact up_s | (rw [up_n (by omega)]; first | assumption | exact up_s | (rw [up_n (by omega)]; first | assumption | exact up_s | (rw [up_n (by omega)]; first | assumption | exact up_s | (rw [up_n (by omega)]; first | assumption | exact up_s | (rw [up_n (by omega)]; first | assumption | exact up_s | (rw [up_n (by omega)]; first | assumption | exact up_s | (rw [up_n (by omega)]; first | assumption | exact up_s | (rw [up_n (by omega)]; first | assumption | exact up_s | (rw [up_n (by omega)]; first | assumption | exact up_s | (rw [up_n (by omega)]; first | assumption | exact up_s | (rw [up_n (by omega)]; first | assumption | exact up_s)))))))))))) (by omega) rfl (by first | assumption | exact up_s | (rw [up_n (by omega)]; first | assumption | exact up_s | (rw [up_n (by omega)]; first | assumption | exact up_s | (rw [up_n (by omega)]; first | assumption | exact up_s | (rw [up_n (by omega)]; first | assumption | exact up_s | (rw [up_n (by omega)]; first | assumption | exact up_s | (rw [up_n (by omega)]; first | assumption | exact up_s | (rw [up_n (by omega)]; first | assumption | exact up_s | (rw [up_n (by omega)]; first | assumption | exact up_s | (rw [up_n (by omega)]; first | assumption | exact up_s | (rw [up_n (by omega)]; first | assumption | exact up_s | (rw [up_n (by omega)]; first | assumption | exact up_s)))))))))))) rfl (mS M) hlt (by omega) rfl dX7_style_37 (fun H locs hW hS => ?_)
    refine lv_aload_n hx hb dX7_style_38 rfl (hL.at 0 rfl) ?_
    refine lv_dup hx hb dX7_style_39 rfl ?_
    refine k_get (ci := 9) (C := RX7) (T := TX7) (N := 15) hx hb hts w_RX7 hown hK hW (by first | assumption | exact up_s | (rw [up_n (by omega)]; first | assumption | exact up_s | (rw [up_n (by omega)]; first | assumption | exact up_s | (rw [up_n (by omega)]; first | assumption | exact up_s | (rw [up_n (by omega)]; first | assumption | exact up_s | (rw [up_n (by omega)]; first | assumption | exact up_s | (rw [up_n (by omega)]; first | assumption | exact up_s | (rw [up_n (by omega)]; first | assumption | exact up_s | (rw [up_n (by omega)]; first | assumption | exact up_s | (rw [up_n (by omega)]; first | assumption | exact up_s | (rw [up_n (by omega)]; first | assumption | exact up_s | (rw [up_n (by omega)]; first | assumption | exact up_s)))))))))))) rfl 8 (by decide) (hq _ q157 rfl) (fun _ h9 => h9) (by rfl) dX7_style_40 ?_
    refine lv_iconst (v := 1) hx hb dX7_style_43 (by decide) ?_
    refine lv_iadd hx hb dX7_style_44 ?_
    rw [nI_1]
    refine k_put (ci := 9) (C := RX7) (T := TX7) (N := 15) (ty := tyX7 8) hx hb hts w_RX7 tyX7 tyX7_ok nmX7 hown hK hW hS (by first | assumption | exact up_s | (rw [up_n (by omega)]; first | assumption | exact up_s | (rw [up_n (by omega)]; first | assumption | exact up_s | (rw [up_n (by omega)]; first | assumption | exact up_s | (rw [up_n (by omega)]; first | assumption | exact up_s | (rw [up_n (by omega)]; first | assumption | exact up_s | (rw [up_n (by omega)]; first | assumption | exact up_s | (rw [up_n (by omega)]; first | assumption | exact up_s | (rw [up_n (by omega)]; first | assumption | exact up_s | (rw [up_n (by omega)]; first | assumption | exact up_s | (rw [up_n (by omega)]; first | assumption | exact up_s | (rw [up_n (by omega)]; first | assumption | exact up_s)))))))))))) (by omega) rfl 8 (by decide) (hq _ q157 rfl) (fun _ h9 => h9) rfl (by decide +kernel) rfl rfl (by first | exact Nat.le_of_ble_eq_true rfl | (simp only [List.length_set]; exact Nat.le_of_ble_eq_true rfl)) dX7_style_45 (fun H locs hW hS => ?_)
    refine lv_aload_n hx hb dX7_style_48 rfl (hL.at 0 rfl) ?_
    refine k_get (ci := 9) (C := RX7) (T := TX7) (N := 15) hx hb hts w_RX7 hown hK hW (by first | assumption | exact up_s | (rw [up_n (by omega)]; first | assumption | exact up_s | (rw [up_n (by omega)]; first | assumption | exact up_s | (rw [up_n (by omega)]; first | assumption | exact up_s | (rw [up_n (by omega)]; first | assumption | exact up_s | (rw [up_n (by omega)]; first | assumption | exact up_s | (rw [up_n (by omega)]; first | assumption | exact up_s | (rw [up_n (by omega)]; first | assumption | exact up_s | (rw [up_n (by omega)]; first | assumption | exact up_s | (rw [up_n (by omega)]; first | assumption | exact up_s | (rw [up_n (by omega)]; first | assumption | exact up_s | (rw [up_n (by omega)]; first | assumption | exact up_s)))))))))))) rfl 8 (by decide) (hq _ q157 rfl) (fun _ h9 => h9) (by rfl) dX7_style_49 ?_
    refine lv_iconst (v := 1) hx hb dX7_style_52 (by decide) ?_
    refine lv_isub hx hb dX7_style_53 ?_
    rw [show nI (mS M + 1) - 1 = nI (mS M) from nI_pred (mS M)]
    rw [hQ]
    exact vx_ret (k_iret hx hb hr hlocks hW hS (by omega) (by omega) dX7_style_54 (⟨hlt, rfl, fun j a b => (hda j b).trans (hdk26 j a), (up_n (by omega)).trans ((up_n (by omega)).trans (hv1)), (up_n (by omega)).trans ((up_n (by omega)).trans (hv2)), (up_n (by omega)).trans (up_s), up_s, fun j a b d f => (up_n a).trans ((up_n b).trans ((hr1 j d f).trans (up_n d)))⟩))
  · try dsimp only at c5
    have hful : mS M = 3 := by
      have h9 : ¬ mS M < 3 := fun z => c5 (nI_lt (b := 3) z (by decide))
      omega
    rw [hQ]
    exact k_throw G hx hb hlocks (names := ["java/lang/RuntimeException", "java/lang/Exception"]) hown hts hq hI (by decide) (by decide) (gT_in q449 rfl) (gT_in q65 rfl) 13 rfl (fun w hw => hq w (at_65 w hw).1 (at_65 w hw).2) ot_65 hW hS (hL.1.trans hml.symm) hin dX7_style_8 dX7_style_11 dX7_style_12 dX7_style_14 dX7_style_17 (by decide) (by decide) (by show _ ≤ (2 : Nat); omega) (by show _ ≤ (12 : Nat); omega) (by omega) (by omega) (⟨rfl, hful⟩)

set_option maxHeartbeats 8000000 in
set_option maxRecDepth 100000 in
/-- TailorBench.hand  -/
theorem c_hand {l : Launch} {D : va_G} {cy : Nat → ClassId} {sad : Nat → Nat} {em : Nat} {s0 : State} {a0 : Array Value} (G : kG kSTR l D cy sad em s0 a0) {ad : Nat → Nat} {ct : Nat → Option va_E} {M : tM} (hm : RepC cy ad ct M) (ho : okM M) (hf : FreeC ct M) (x1 : Int32) :
    KX l yX7_hand [.code yX7_hand prog_1_method_8_code 2 (some .int)] 6 90 2 12 [.ref (ad 1), .int x1] D s0 ad ct (fun v ad' ct' => ∃ w : Nat, 1 ≤ w ∧ w ≤ 16 ∧ x1 = nI w ∧ mH M < 3 ∧ v = some (.int (nI (mH M))) ∧ (∀ j, j ≠ 56 + mH M → ad' j = ad j) ∧ ct' (56 + mH M) = some (oHa (w, cD0)) ∧ ct' 5 = some (.inl (cy 7, 3, aQ (va_up (kqs ad 56 (mH M)) (mH M) (some (ad' (56 + mH M)))))) ∧ ct' 1 = some (oShop ad (aHa M (w, cD0))) ∧ ∀ j, j ≠ 1 → j ≠ 5 → j ≠ 56 + mH M → ct' j = ct j) (fun E => (E = eArg ∧ (x1 < 1 ∨ 16 < x1)) ∨ (E = eSta ∧ ¬ (x1 < 1 ∨ 16 < x1) ∧ mH M = 3)) := by
  refine KX.of G (by decide) (Nat.le_of_ble_eq_true rfl) (Nat.le_of_ble_eq_true rfl) ?_
  intro p e s m args below meth c ls Q hQ X hin hL hW hS
  obtain ⟨hx, hb, hr, hml, hown, hlocks, hts, hq, hK, hI⟩ := X
  have hbn := ho.1.2.2.2.1
  have hs1 := hm.1
  have ha5 := hm.2.1.2.2.2.1
  refine lv_iload_n hx hb dX7_hand_0 rfl (hL.at 1 rfl) ?_
  refine lv_iconst (v := 1) hx hb dX7_hand_1 (by decide) ?_
  refine lv_bipush (v := 16) hx hb dX7_hand_2 (by decide) ?_
  refine k_callS hx hb hml hown hts hI hS hW hL.1 (c_isOutside G x1 1 16) (m4 (gT_in q421 rfl) (gT_in q422 rfl) (gT_in q55 rfl) (gT_in q423 rfl)) (show kpar yX7_isOutside 3 from ⟨by decide, by decide, by decide +kernel⟩) ⟨by decide, by decide⟩ (by show _ ≤ (2 : Nat); omega) (by show _ ≤ (12 : Nat); omega) rfl (by first | decide | exact Nat.le_of_ble_eq_true rfl) dX7_hand_4 (fun v ad4 ct4 H locs hp hW hS => ?_)
  obtain ⟨rfl, h1, h2⟩ := hp
  rw [h1, h2] at hW
  refine lv_if_eq (tgt := 20) hx hb dX7_hand_7 (by decide) (fun c7 => ?_) (fun c7 => ?_)
  · try simp only [b2_eq, Decidable.not_not] at c7
    try dsimp only at c7
    refine lv_aload_n hx hb dX7_hand_20 rfl (hL.at 0 rfl) ?_
    refine k_get (ci := 9) (C := RX7) (T := TX7) (N := 15) hx hb hts w_RX7 hown hK hW (by first | assumption | exact up_s | (rw [up_n (by omega)]; first | assumption | exact up_s | (rw [up_n (by omega)]; first | assumption | exact up_s | (rw [up_n (by omega)]; first | assumption | exact up_s | (rw [up_n (by omega)]; first | assumption | exact up_s | (rw [up_n (by omega)]; first | assumption | exact up_s | (rw [up_n (by omega)]; first | assumption | exact up_s | (rw [up_n (by omega)]; first | assumption | exact up_s | (rw [up_n (by omega)]; first | assumption | exact up_s | (rw [up_n (by omega)]; first | assumption | exact up_s | (rw [up_n (by omega)]; first | assumption | exact up_s | (rw [up_n (by omega)]; first | assumption | exact up_s)))))))))))) rfl 9 (by decide) (hq _ q158 rfl) (fun _ h9 => h9) (by rfl) dX7_hand_21 ?_
    refine lv_iconst (v := 3) hx hb dX7_hand_24 (by decide) ?_
    refine lv_icmp_lt (tgt := 38) hx hb dX7_hand_25 (by decide) (fun c25 => ?_) (fun c25 => ?_)
    · try dsimp only at c25
      have hlt : mH M < 3 := (nI_ltI (b := 3) (by omega) (by omega)).mp c25
      obtain ⟨w, hw1, hw2, hxw⟩ := kIn_btw (a := 1) (b := 16) c7 (by decide)
      subst hxw
      refine lv_aload_n hx hb dX7_hand_38 rfl (hL.at 0 rfl) ?_
      refine k_get (ci := 9) (C := RX7) (T := TX7) (N := 15) hx hb hts w_RX7 hown hK hW (by first | assumption | exact up_s | (rw [up_n (by omega)]; first | assumption | exact up_s | (rw [up_n (by omega)]; first | assumption | exact up_s | (rw [up_n (by omega)]; first | assumption | exact up_s | (rw [up_n (by omega)]; first | assumption | exact up_s | (rw [up_n (by omega)]; first | assumption | exact up_s | (rw [up_n (by omega)]; first | assumption | exact up_s | (rw [up_n (by omega)]; first | assumption | exact up_s | (rw [up_n (by omega)]; first | assumption | exact up_s | (rw [up_n (by omega)]; first | assumption | exact up_s | (rw [up_n (by omega)]; first | assumption | exact up_s | (rw [up_n (by omega)]; first | assumption | exact up_s)))))))))))) rfl 3 (by decide) (hq _ q152 rfl) (fun _ h9 => h9) (by rfl) dX7_hand_39 ?_
      refine lv_aload_n hx hb dX7_hand_42 rfl (hL.at 0 rfl) ?_
      refine k_get (ci := 9) (C := RX7) (T := TX7) (N := 15) hx hb hts w_RX7 hown hK hW (by first | assumption | exact up_s | (rw [up_n (by omega)]; first | assumption | exact up_s | (rw [up_n (by omega)]; first | assumption | exact up_s | (rw [up_n (by omega)]; first | assumption | exact up_s | (rw [up_n (by omega)]; first | assumption | exact up_s | (rw [up_n (by omega)]; first | assumption | exact up_s | (rw [up_n (by omega)]; first | assumption | exact up_s | (rw [up_n (by omega)]; first | assumption | exact up_s | (rw [up_n (by omega)]; first | assumption | exact up_s | (rw [up_n (by omega)]; first | assumption | exact up_s | (rw [up_n (by omega)]; first | assumption | exact up_s | (rw [up_n (by omega)]; first | assumption | exact up_s)))))))))))) rfl 9 (by decide) (hq _ q158 rfl) (fun _ h9 => h9) (by rfl) dX7_hand_43 ?_
      refine k_new (ci := 3) (fs := [.float 0, .double 0]) (C := RX1) (T := TX1) (N := 2) hx hb hts w_RX1 tyX1 tyX1_ok hown (hq _ q100 rfl) (hq _ q641 rfl) (hq _ q79 rfl) hK hW hS hI.2.1 rfl (56 + mH M) (hf.2.2.2.2.1 (mH M) (Nat.le_refl _) hlt) (fun j hj => by rcases (show j = 0 ∨ j = 1 by omega) with rfl | rfl <;> rfl) (by show _ ≤ (2 : Nat); omega) (by show _ ≤ (12 : Nat); omega) dX7_hand_46 (fun q46 H hW hS => ?_)
      obtain ⟨ad1, hd46⟩ : ∃ z, z = upA ad (56 + mH M) q46 := ⟨_, rfl⟩
      rw [← hd46] at hW ⊢
      have hdk46 : ∀ j, j ≠ (56 + mH M) → ad1 j = ad j := fun j hj => by rw [hd46]; exact upA_n hj
      rw [← hdk46 1 (by omega)] at hL
      rw [← hdk46 5 (by omega)]
      refine lv_dup hx hb dX7_hand_49 rfl ?_
      refine lv_iload_n hx hb dX7_hand_50 rfl (hL.at 1 rfl) ?_
      refine lv_i2f hx hb dX7_hand_51 ?_
      refine lv_ldcf hx hb hown (hq _ q642 rfl) dX7_hand_52 ?_
      refine lv_fdiv hx hb dX7_hand_54 (dP_pace hw1 hw2).2.2 ?_
      refine k_callIN (host := "TailorBench") hx hb hml hown hts hI hS hW hL.1 (c_iHand G (kz := 56 + mH M) (by omega) up_s _) (gT_in q645 rfl) (hq _ q643 rfl) (hq _ q79 rfl) (hq _ q644 rfl) rfl (show kpar yX1_init 1 from ⟨by decide, by decide, by decide +kernel⟩) ⟨by decide, by decide⟩ (by show _ ≤ (2 : Nat); omega) (by show _ ≤ (12 : Nat); omega) rfl (by first | decide | exact Nat.le_of_ble_eq_true rfl) dX7_hand_55 (fun v ad55 ct55 H locs hp hW hS => ?_)
      obtain ⟨rfl, h1, hv1, hr1⟩ := hp
      rw [h1] at hW
      have hs55 : ct55 1 = some (oShop ad M) := (hr1 1 (by omega)).trans ((up_n (by omega)).trans hs1)
      have ha55 := (hr1 5 (by omega)).trans ((up_n (by omega)).trans ha5)
      refine k_aast hx hb hK hW hS 7 (r := (RX1, TX1, 2)) (by first | assumption | exact up_s | (rw [up_n (by omega)]; first | assumption | exact up_s | (rw [up_n (by omega)]; first | assumption | exact up_s | (rw [up_n (by omega)]; first | assumption | exact up_s | (rw [up_n (by omega)]; first | assumption | exact up_s | (rw [up_n (by omega)]; first | assumption | exact up_s | (rw [up_n (by omega)]; first | assumption | exact up_s | (rw [up_n (by omega)]; first | assumption | exact up_s | (rw [up_n (by omega)]; first | assumption | exact up_s | (rw [up_n (by omega)]; first | assumption | exact up_s | (rw [up_n (by omega)]; first | assumption | exact up_s | (rw [up_n (by omega)]; first | assumption | exact up_s)))))))))))) (by omega) rfl (by first | assumption | exact up_s | (rw [up_n (by omega)]; first | assumption | exact up_s | (rw [up_n (by omega)]; first | assumption | exact up_s | (rw [up_n (by omega)]; first | assumption | exact up_s | (rw [up_n (by omega)]; first | assumption | exact up_s | (rw [up_n (by omega)]; first | assumption | exact up_s | (rw [up_n (by omega)]; first | assumption | exact up_s | (rw [up_n (by omega)]; first | assumption | exact up_s | (rw [up_n (by omega)]; first | assumption | exact up_s | (rw [up_n (by omega)]; first | assumption | exact up_s | (rw [up_n (by omega)]; first | assumption | exact up_s | (rw [up_n (by omega)]; first | assumption | exact up_s)))))))))))) rfl (mH M) hlt (by omega) rfl dX7_hand_58 (fun H locs hW hS => ?_)
      refine lv_aload_n hx hb dX7_hand_59 rfl (hL.at 0 rfl) ?_
      refine lv_dup hx hb dX7_hand_60 rfl ?_
      refine k_get (ci := 9) (C := RX7) (T := TX7) (N := 15) hx hb hts w_RX7 hown hK hW (by first | assumption | exact up_s | (rw [up_n (by omega)]; first | assumption | exact up_s | (rw [up_n (by omega)]; first | assumption | exact up_s | (rw [up_n (by omega)]; first | assumption | exact up_s | (rw [up_n (by omega)]; first | assumption | exact up_s | (rw [up_n (by omega)]; first | assumption | exact up_s | (rw [up_n (by omega)]; first | assumption | exact up_s | (rw [up_n (by omega)]; first | assumption | exact up_s | (rw [up_n (by omega)]; first | assumption | exact up_s | (rw [up_n (by omega)]; first | assumption | exact up_s | (rw [up_n (by omega)]; first | assumption | exact up_s | (rw [up_n (by omega)]; first | assumption | exact up_s)))))))))))) rfl 9 (by decide) (hq _ q158 rfl) (fun _ h9 => h9) (by rfl) dX7_hand_61 ?_
      refine lv_iconst (v := 1) hx hb dX7_hand_64 (by decide) ?_
      refine lv_iadd hx hb dX7_hand_65 ?_
      rw [nI_1]
      refine k_put (ci := 9) (C := RX7) (T := TX7) (N := 15) (ty := tyX7 9) hx hb hts w_RX7 tyX7 tyX7_ok nmX7 hown hK hW hS (by first | assumption | exact up_s | (rw [up_n (by omega)]; first | assumption | exact up_s | (rw [up_n (by omega)]; first | assumption | exact up_s | (rw [up_n (by omega)]; first | assumption | exact up_s | (rw [up_n (by omega)]; first | assumption | exact up_s | (rw [up_n (by omega)]; first | assumption | exact up_s | (rw [up_n (by omega)]; first | assumption | exact up_s | (rw [up_n (by omega)]; first | assumption | exact up_s | (rw [up_n (by omega)]; first | assumption | exact up_s | (rw [up_n (by omega)]; first | assumption | exact up_s | (rw [up_n (by omega)]; first | assumption | exact up_s | (rw [up_n (by omega)]; first | assumption | exact up_s)))))))))))) (by omega) rfl 9 (by decide) (hq _ q158 rfl) (fun _ h9 => h9) rfl (by decide +kernel) rfl rfl (by first | exact Nat.le_of_ble_eq_true rfl | (simp only [List.length_set]; exact Nat.le_of_ble_eq_true rfl)) dX7_hand_66 (fun H locs hW hS => ?_)
      refine lv_aload_n hx hb dX7_hand_69 rfl (hL.at 0 rfl) ?_
      refine k_get (ci := 9) (C := RX7) (T := TX7) (N := 15) hx hb hts w_RX7 hown hK hW (by first | assumption | exact up_s | (rw [up_n (by omega)]; first | assumption | exact up_s | (rw [up_n (by omega)]; first | assumption | exact up_s | (rw [up_n (by omega)]; first | assumption | exact up_s | (rw [up_n (by omega)]; first | assumption | exact up_s | (rw [up_n (by omega)]; first | assumption | exact up_s | (rw [up_n (by omega)]; first | assumption | exact up_s | (rw [up_n (by omega)]; first | assumption | exact up_s | (rw [up_n (by omega)]; first | assumption | exact up_s | (rw [up_n (by omega)]; first | assumption | exact up_s | (rw [up_n (by omega)]; first | assumption | exact up_s | (rw [up_n (by omega)]; first | assumption | exact up_s)))))))))))) rfl 9 (by decide) (hq _ q158 rfl) (fun _ h9 => h9) (by rfl) dX7_hand_70 ?_
      refine lv_iconst (v := 1) hx hb dX7_hand_73 (by decide) ?_
      refine lv_isub hx hb dX7_hand_74 ?_
      rw [show nI (mH M + 1) - 1 = nI (mH M) from nI_pred (mH M)]
      rw [hQ]
      exact vx_ret (k_iret hx hb hr hlocks hW hS (by omega) (by omega) dX7_hand_75 (⟨w, hw1, hw2, rfl, hlt, rfl, hdk46, (up_n (by omega)).trans ((up_n (by omega)).trans (hv1)), (up_n (by omega)).trans (up_s), up_s, fun j a b d => (up_n a).trans ((up_n b).trans ((hr1 j d).trans (up_n d)))⟩))
    · try dsimp only at c25
      have hful : mH M = 3 := by
        have h9 : ¬ mH M < 3 := fun z => c25 (nI_lt (b := 3) z (by decide))
        omega
      rw [hQ]
      exact k_throw G hx hb hlocks (names := ["java/lang/RuntimeException", "java/lang/Exception"]) hown hts hq hI (by decide) (by decide) (gT_in q449 rfl) (gT_in q65 rfl) 18 rfl (fun w hw => hq w (at_65 w hw).1 (at_65 w hw).2) ot_65 hW hS (hL.1.trans hml.symm) hin dX7_hand_28 dX7_hand_31 dX7_hand_32 dX7_hand_34 dX7_hand_37 (by decide) (by decide) (by show _ ≤ (2 : Nat); omega) (by show _ ≤ (12 : Nat); omega) (by omega) (by omega) (by first | exact Or.inl ⟨rfl, hbad⟩ | exact Or.inr ⟨rfl, c7, hful⟩)
  · try simp only [b2_eq, Decidable.not_not] at c7
    try dsimp only at c7
    have hbad : (x1 < 1 ∨ 16 < x1) := by first | exact c7 | exact Decidable.not_not.mp c7
    rw [hQ]
    exact k_throw G hx hb hlocks (names := ["java/lang/RuntimeException", "java/lang/Exception"]) hown hts hq hI (by decide) (by decide) (gT_in q220 rfl) (gT_in q64 rfl) 17 rfl (fun w hw => hq w (at_54 w hw).1 (at_54 w hw).2) ot_54 hW hS (hL.1.trans hml.symm) hin dX7_hand_10 dX7_hand_13 dX7_hand_14 dX7_hand_16 dX7_hand_19 (by decide) (by decide) (by show _ ≤ (2 : Nat); omega) (by show _ ≤ (12 : Nat); omega) (by omega) (by omega) (by first | exact Or.inl ⟨rfl, hbad⟩ | exact Or.inr ⟨rfl, c7, hful⟩)
