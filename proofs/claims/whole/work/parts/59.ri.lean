/-! the reference: a piece, a person -/
theorem fI4_new {a b c d : Nat} : upd (upd (upd (upd (fun _ => (0 : Int32)) 0 (nI a)) 1 (nI b)) 2 (nI c)) 3 (nI d) = fI4 (fMs a b c d) := by
  funext k
  by_cases h : k < 4
  · rcases (show k = 0 ∨ k = 1 ∨ k = 2 ∨ k = 3 by omega) with rfl | rfl | rfl | rfl <;> rfl
  · unfold fI4
    rw [if_neg h]
    simp only [upd]
    rw [if_neg (show ¬ k = 3 by omega), if_neg (show ¬ k = 2 by omega), if_neg (show ¬ k = 1 by omega), if_neg (show ¬ k = 0 by omega)]
theorem isPart_iff {x : Int32} : (x < 0 ∨ (x / 10 < 0 ∨ 3 < x / 10) ∨ (x - x / 10 * 10 < 1 ∨ 8 < x - x / 10 * 10)) ↔ ¬ kPart x := by
  by_cases h0 : x < 0
  · exact ⟨fun _ z => by obtain ⟨p, hp, rfl⟩ := z; exact nI_pos (by have := hp.1; omega) h0, fun _ => Or.inl h0⟩
  · obtain ⟨j, hj, rfl⟩ := nI_of h0
    rw [fI_rem10 hj, fI_div10 hj]
    have a1 : (3 : Int32) < nI (j / 10) ↔ 3 < j / 10 := nI_ltI (a := 3) (by decide) (by omega)
    have a2 : nI (j % 10) < 1 ↔ j % 10 < 1 := nI_ltI (b := 1) (by omega) (by decide)
    have a3 : (8 : Int32) < nI (j % 10) ↔ 8 < j % 10 := nI_ltI (a := 8) (by decide) (by omega)
    have a4 : ¬ nI (j / 10) < 0 := nI_pos (by omega)
    rw [a1, a2, a3]
    constructor
    · rintro z ⟨p, ⟨hp1, hp2, hp3⟩, e⟩
      obtain rfl : j = p := (nI_eq hj (by omega)).mp e
      rcases z with z | (z | z) | z
      · exact h0 z
      · exact a4 z
      · omega
      · omega
    · intro z
      by_cases q : (3 < j / 10 ∨ j % 10 < 1 ∨ 8 < j % 10)
      · rcases q with q | q | q
        · exact Or.inr (Or.inl (Or.inr q))
        · exact Or.inr (Or.inr (Or.inl q))
        · exact Or.inr (Or.inr (Or.inr q))
      · exact absurd ⟨j, ⟨by omega, by omega, by omega⟩, rfl⟩ z

set_option maxHeartbeats 2500000 in
set_option maxRecDepth 100000 in
/-- TailorBenchModel.piece  -/
theorem r_piece {l : Launch} {D : va_G} {cy : Nat → ClassId} {sad : Nat → Nat} {em : Nat} {s0 : State} {a0 : Array Value} (G : kG kSTR l D cy sad em s0 a0) {ad : Nat → Nat} {ct : Nat → Option va_E} {M : tM} {th : Int32} {sm : Int64} (hm0 : ct 100 = some (oMod ad M th sm)) (hL0 : RepL0 cy ad ct M) (ho : okM M) (hF : FreeR ct M) (hem : ad 0 = em) (hXs : ∀ i, i < mS M → ((mst M i).2.2 = 0 ↔ ∀ j, j < mO M → ¬ oS (mod M j) = i)) (x1 x2 x3 x4 x5 : Int32) :
    KM l yX11_piece [.code yX11_piece prog_10_method_15_code 10 (some .int)] 6 190 3 18 [.ref (ad 100), .int x1, .int x2, .int x3, .int x4, .int x5] D s0 ad ct (fun v ad' ct' => ∃ (b : Int32), v = some (.int b) ∧ ((ad' = ad ∧ (((¬ kIn x1 (mS M)) ∧ ct' 100 = some (oMod ad M 1 sm) ∧ ∀ k9, k9 ≠ 100 → ct' k9 = ct k9) ∨ ((kIn x1 (mS M) ∧ (¬ kPart x2 ∨ ¬ kPart x3 ∨ (x4 < 0 ∨ 40 < x4) ∨ (x5 < 1 ∨ 4 < x5))) ∧ ct' 100 = some (oMod ad M 2 sm) ∧ ∀ k9, k9 ≠ 100 → ct' k9 = ct k9) ∨ ((∃ i, i < mS M ∧ x1 = nI i ∧ ¬ (¬ kPart x2 ∨ ¬ kPart x3 ∨ (x4 < 0 ∨ 40 < x4) ∨ (x5 < 1 ∨ 4 < x5)) ∧ ((mst M i).1 = 5 ∨ ¬ (mst M i).2.2 = 0)) ∧ ct' 100 = some (oMod ad M 3 sm) ∧ ∀ k9, k9 ≠ 100 → ct' k9 = ct k9))) ∨ ∃ i p1 p2 es cn : Nat, i < mS M ∧ x1 = nI i ∧ (okPart p1 ∧ x2 = nI p1) ∧ (okPart p2 ∧ x3 = nI p2) ∧ (es ≤ 40 ∧ x4 = nI es) ∧ (1 ≤ cn ∧ cn ≤ 4 ∧ x5 = nI cn) ∧ (mst M i).1 < 5 ∧ (mst M i).2.2 = 0 ∧ b = nI ((mst M i).1 + 1) ∧ (∀ j, j ≠ 144 + i → j ≠ (150 + 5 * i + (mst M i).1) → ad' j = ad j) ∧ (0 < (mst M i).1 → ad' (144 + i) = ad (144 + i)) ∧ rLst cy ad' ct' (140 + i) (144 + i) (150 + 5 * i) ((mst M i).1 + 1) ∧ ct' (150 + 5 * i + (mst M i).1) = some (.inl (cy 1, 4, aI (fI4 (fPc4 (p1, p2, es, cn))))) ∧ ct' 100 = some (oMod ad M 0 sm) ∧ ∀ k9, k9 ≠ 100 → k9 ≠ 140 + i → k9 ≠ 144 + i → k9 ≠ (150 + 5 * i + (mst M i).1) → ct' k9 = ct k9)) := by
  refine KM.of G (by decide) (Nat.le_of_ble_eq_true rfl) (Nat.le_of_ble_eq_true rfl) ?_
  intro p e s m args below meth c ls Q hQ X hin hL hW hS
  obtain ⟨hx, hb, hr, hml, hown, hlocks, hts, hq, hK, hI⟩ := X
  have hbn := ho.1
  have hfr := hF.2.2.2.2.2.2
  replace hL := hL.nrm (l' := [some _, some _, some _, some _, some _, some _, none, none, none, none]) rfl
  refine lv_aload_n hx hb dX11_piece_0 rfl (hL.at 0 rfl) ?_
  refine lv_iconst (v := 0) hx hb dX11_piece_1 (by decide) ?_
  refine k_put (ci := 13) (C := RX11) (T := TX11) (N := 13) (ty := tyX11 0) hx hb hts w_RX11 tyX11 tyX11_ok nmX11 hown hK hW hS (by first | with_reducible assumption | with_reducible exact up_s | (rw [up_n (by omega)]; first | with_reducible assumption | with_reducible exact up_s | (rw [up_n (by omega)]; first | with_reducible assumption | with_reducible exact up_s | (rw [up_n (by omega)]; first | with_reducible assumption | with_reducible exact up_s | (rw [up_n (by omega)]; first | with_reducible assumption | with_reducible exact up_s | (rw [up_n (by omega)]; first | with_reducible assumption | with_reducible exact up_s | (rw [up_n (by omega)]; first | with_reducible assumption | with_reducible exact up_s | (rw [up_n (by omega)]; first | with_reducible assumption | with_reducible exact up_s | (rw [up_n (by omega)]; first | with_reducible assumption | with_reducible exact up_s | (rw [up_n (by omega)]; first | with_reducible assumption | with_reducible exact up_s | (rw [up_n (by omega)]; first | with_reducible assumption | with_reducible exact up_s | (rw [up_n (by omega)]; first | with_reducible assumption | with_reducible exact up_s | (rw [up_n (by omega)]; first | with_reducible assumption | with_reducible exact up_s | (rw [up_n (by omega)]; first | with_reducible assumption | with_reducible exact up_s | (rw [up_n (by omega)]; first | with_reducible assumption | with_reducible exact up_s | (rw [up_n (by omega)]; first | with_reducible assumption | with_reducible exact up_s | (rw [up_n (by omega)]; first | with_reducible assumption | with_reducible exact up_s | (rw [up_n (by omega)]; first | with_reducible assumption | with_reducible exact up_s | (rw [up_n (by omega)]; first | with_reducible assumption | with_reducible exact up_s | (rw [up_n (by omega)]; first | with_reducible assumption | with_reducible exact up_s | (rw [up_n (by omega)]; first | with_reducible assumption | with_reducible exact up_s | (rw [up_n (by omega)]; first | with_reducible assumption | with_reducible exact up_s | (rw [up_n (by omega)]; first | with_reducible assumption | with_reducible exact up_s))))))))))))))))))))))) (by omega) rfl 0 (by decide) (hq _ q871 rfl) (fun _ h9 => h9) rfl (by decide +kernel) rfl rfl (by first | exact Nat.le_of_ble_eq_true rfl | (simp only [List.length_set]; exact Nat.le_of_ble_eq_true rfl)) dX11_piece_2 (fun H locs hW hS => ?_)
  obtain ⟨ctA, hA1, hA2, hW⟩ := kW_gen hW
  have hmA : ctA 100 = some (oMod ad M _ sm) := hA1
  have hLA := hL0.up hA2
  have hfA : ∀ j, 200 ≤ j → ctA j = none := fun j hj => (hA2 j (by omega)).trans (hfr j hj)
  refine lv_aload_n hx hb dX11_piece_5 rfl (hL.at 0 rfl) ?_
  refine lv_iload_n hx hb dX11_piece_6 rfl (hL.at 1 rfl) ?_
  refine k_callV (q := (RX11, TX11, 13)) hx hb hml hown hts hK hI hS hW hL.1 (by first | with_reducible assumption | with_reducible exact up_s | (rw [up_n (by omega)]; first | with_reducible assumption | with_reducible exact up_s | (rw [up_n (by omega)]; first | with_reducible assumption | with_reducible exact up_s | (rw [up_n (by omega)]; first | with_reducible assumption | with_reducible exact up_s | (rw [up_n (by omega)]; first | with_reducible assumption | with_reducible exact up_s | (rw [up_n (by omega)]; first | with_reducible assumption | with_reducible exact up_s | (rw [up_n (by omega)]; first | with_reducible assumption | with_reducible exact up_s | (rw [up_n (by omega)]; first | with_reducible assumption | with_reducible exact up_s | (rw [up_n (by omega)]; first | with_reducible assumption | with_reducible exact up_s | (rw [up_n (by omega)]; first | with_reducible assumption | with_reducible exact up_s | (rw [up_n (by omega)]; first | with_reducible assumption | with_reducible exact up_s | (rw [up_n (by omega)]; first | with_reducible assumption | with_reducible exact up_s | (rw [up_n (by omega)]; first | with_reducible assumption | with_reducible exact up_s | (rw [up_n (by omega)]; first | with_reducible assumption | with_reducible exact up_s | (rw [up_n (by omega)]; first | with_reducible assumption | with_reducible exact up_s | (rw [up_n (by omega)]; first | with_reducible assumption | with_reducible exact up_s | (rw [up_n (by omega)]; first | with_reducible assumption | with_reducible exact up_s | (rw [up_n (by omega)]; first | with_reducible assumption | with_reducible exact up_s | (rw [up_n (by omega)]; first | with_reducible assumption | with_reducible exact up_s | (rw [up_n (by omega)]; first | with_reducible assumption | with_reducible exact up_s | (rw [up_n (by omega)]; first | with_reducible assumption | with_reducible exact up_s | (rw [up_n (by omega)]; first | with_reducible assumption | with_reducible exact up_s | (rw [up_n (by omega)]; first | with_reducible assumption | with_reducible exact up_s))))))))))))))))))))))) rfl (r_isStyle G hmA hLA x1) (m5 (gT_in q1070 rfl) (gT_in q1072 rfl) (gT_in q33 rfl) (gT_in q57 rfl) (gT_in q1073 rfl)) rfl (show kpar yX11_isStyle 1 from ⟨by decide, by decide, by decide +kernel⟩) ⟨by decide, by decide⟩ (by show _ ≤ (3 : Nat); omega) (by show _ ≤ (18 : Nat); omega) rfl (by first | decide | exact Nat.le_of_ble_eq_true rfl) dX11_piece_7 (fun v ad7 ct7 H locs hp hW hS => ?_)
  obtain ⟨rfl, h1, h2⟩ := hp
  rw [h1, h2] at hW
  refine lv_if_ne (tgt := 19) hx hb dX11_piece_10 (by decide) (fun c10 => ?_) (fun c10 => ?_)
  · try simp only [b2_eq, b3_eq, Decidable.not_not] at c10
    try dsimp only at c10
    obtain ⟨i, hi, hxi⟩ : kIn x1 (mS M) := Classical.not_not.mp (fun z => c10 ((kIn_m1 (by omega)).mpr z))
    subst hxi
    have hs5 := (ho.2.2.2.1 i hi).1
    have hsl := hLA.2.2.2.2.1 i hi
    refine lv_iload_n hx hb dX11_piece_19 rfl (hL.at 2 rfl) ?_
    refine k_callS hx hb hml hown hts hI hS hW hL.1 (r_isPart G x2) (m4 (gT_in q1074 rfl) (gT_in q1075 rfl) (gT_in q57 rfl) (gT_in q1076 rfl)) (show kpar yX11_isPart 1 from ⟨by decide, by decide, by decide +kernel⟩) ⟨by decide, by decide⟩ (by show _ ≤ (3 : Nat); omega) (by show _ ≤ (18 : Nat); omega) rfl (by first | decide | exact Nat.le_of_ble_eq_true rfl) dX11_piece_20 (fun v ad20 ct20 H locs hp hW hS => ?_)
    obtain ⟨rfl, h1, h2⟩ := hp
    rw [h1, h2] at hW
    refine lv_if_eq (tgt := 54) hx hb dX11_piece_23 (by decide) (fun c23 => ?_) (fun c23 => ?_)
    · try simp only [b2_eq, b3_eq, Decidable.not_not] at c23
      try dsimp only at c23
      have hbad : ¬ kPart x2 ∨ ¬ kPart x3 ∨ (x4 < 0 ∨ 40 < x4) ∨ (x5 < 1 ∨ 4 < x5) := Or.inl (isPart_iff.mp c23)
      refine lv_aload_n hx hb dX11_piece_54 rfl (hL.at 0 rfl) ?_
      refine lv_iconst (v := 2) hx hb dX11_piece_55 (by decide) ?_
      refine k_callV (q := (RX11, TX11, 13)) hx hb hml hown hts hK hI hS hW hL.1 (by first | with_reducible assumption | with_reducible exact up_s | (rw [up_n (by omega)]; first | with_reducible assumption | with_reducible exact up_s | (rw [up_n (by omega)]; first | with_reducible assumption | with_reducible exact up_s | (rw [up_n (by omega)]; first | with_reducible assumption | with_reducible exact up_s | (rw [up_n (by omega)]; first | with_reducible assumption | with_reducible exact up_s | (rw [up_n (by omega)]; first | with_reducible assumption | with_reducible exact up_s | (rw [up_n (by omega)]; first | with_reducible assumption | with_reducible exact up_s | (rw [up_n (by omega)]; first | with_reducible assumption | with_reducible exact up_s | (rw [up_n (by omega)]; first | with_reducible assumption | with_reducible exact up_s | (rw [up_n (by omega)]; first | with_reducible assumption | with_reducible exact up_s | (rw [up_n (by omega)]; first | with_reducible assumption | with_reducible exact up_s | (rw [up_n (by omega)]; first | with_reducible assumption | with_reducible exact up_s | (rw [up_n (by omega)]; first | with_reducible assumption | with_reducible exact up_s | (rw [up_n (by omega)]; first | with_reducible assumption | with_reducible exact up_s | (rw [up_n (by omega)]; first | with_reducible assumption | with_reducible exact up_s | (rw [up_n (by omega)]; first | with_reducible assumption | with_reducible exact up_s | (rw [up_n (by omega)]; first | with_reducible assumption | with_reducible exact up_s | (rw [up_n (by omega)]; first | with_reducible assumption | with_reducible exact up_s | (rw [up_n (by omega)]; first | with_reducible assumption | with_reducible exact up_s | (rw [up_n (by omega)]; first | with_reducible assumption | with_reducible exact up_s | (rw [up_n (by omega)]; first | with_reducible assumption | with_reducible exact up_s | (rw [up_n (by omega)]; first | with_reducible assumption | with_reducible exact up_s | (rw [up_n (by omega)]; first | with_reducible assumption | with_reducible exact up_s))))))))))))))))))))))) rfl (r_refuse G hmA 2) (m5 (gT_in q923 rfl) (gT_in q925 rfl) (gT_in q27 rfl) (gT_in q57 rfl) (gT_in q926 rfl)) rfl (show kpar yX11_refuse 1 from ⟨by decide, by decide, by decide +kernel⟩) ⟨by decide, by decide⟩ (by show _ ≤ (3 : Nat); omega) (by show _ ≤ (18 : Nat); omega) rfl (by first | decide | exact Nat.le_of_ble_eq_true rfl) dX11_piece_56 (fun v ad56 ct56 H locs hp hW hS => ?_)
      obtain ⟨rfl, h1, hv1, hr1⟩ := hp
      rw [h1] at hW
      rw [hQ]
      exact k_iret hx hb hr hlocks hW hS (by omega) (by omega) dX11_piece_59 (⟨_, rfl, Or.inl ⟨rfl, Or.inr (Or.inl ⟨⟨⟨i, hi, rfl⟩, hbad⟩, hv1, fun k9 a => (hr1 k9 a).trans (hA2 k9 a)⟩)⟩⟩)
    · try simp only [b2_eq, b3_eq, Decidable.not_not] at c23
      try dsimp only at c23
      refine lv_iload_n hx hb dX11_piece_26 rfl (hL.at 3 rfl) ?_
      refine k_callS hx hb hml hown hts hI hS hW hL.1 (r_isPart G x3) (m4 (gT_in q1074 rfl) (gT_in q1075 rfl) (gT_in q57 rfl) (gT_in q1076 rfl)) (show kpar yX11_isPart 1 from ⟨by decide, by decide, by decide +kernel⟩) ⟨by decide, by decide⟩ (by show _ ≤ (3 : Nat); omega) (by show _ ≤ (18 : Nat); omega) rfl (by first | decide | exact Nat.le_of_ble_eq_true rfl) dX11_piece_27 (fun v ad27 ct27 H locs hp hW hS => ?_)
      obtain ⟨rfl, h1, h2⟩ := hp
      rw [h1, h2] at hW
      refine lv_if_eq (tgt := 54) hx hb dX11_piece_30 (by decide) (fun c30 => ?_) (fun c30 => ?_)
      · try simp only [b2_eq, b3_eq, Decidable.not_not] at c30
        try dsimp only at c30
        have hbad : ¬ kPart x2 ∨ ¬ kPart x3 ∨ (x4 < 0 ∨ 40 < x4) ∨ (x5 < 1 ∨ 4 < x5) := Or.inr (Or.inl (isPart_iff.mp c30))
        refine lv_aload_n hx hb dX11_piece_54 rfl (hL.at 0 rfl) ?_
        refine lv_iconst (v := 2) hx hb dX11_piece_55 (by decide) ?_
        refine k_callV (q := (RX11, TX11, 13)) hx hb hml hown hts hK hI hS hW hL.1 (by first | with_reducible assumption | with_reducible exact up_s | (rw [up_n (by omega)]; first | with_reducible assumption | with_reducible exact up_s | (rw [up_n (by omega)]; first | with_reducible assumption | with_reducible exact up_s | (rw [up_n (by omega)]; first | with_reducible assumption | with_reducible exact up_s | (rw [up_n (by omega)]; first | with_reducible assumption | with_reducible exact up_s | (rw [up_n (by omega)]; first | with_reducible assumption | with_reducible exact up_s | (rw [up_n (by omega)]; first | with_reducible assumption | with_reducible exact up_s | (rw [up_n (by omega)]; first | with_reducible assumption | with_reducible exact up_s | (rw [up_n (by omega)]; first | with_reducible assumption | with_reducible exact up_s | (rw [up_n (by omega)]; first | with_reducible assumption | with_reducible exact up_s | (rw [up_n (by omega)]; first | with_reducible assumption | with_reducible exact up_s | (rw [up_n (by omega)]; first | with_reducible assumption | with_reducible exact up_s | (rw [up_n (by omega)]; first | with_reducible assumption | with_reducible exact up_s | (rw [up_n (by omega)]; first | with_reducible assumption | with_reducible exact up_s | (rw [up_n (by omega)]; first | with_reducible assumption | with_reducible exact up_s | (rw [up_n (by omega)]; first | with_reducible assumption | with_reducible exact up_s | (rw [up_n (by omega)]; first | with_reducible assumption | with_reducible exact up_s | (rw [up_n (by omega)]; first | with_reducible assumption | with_reducible exact up_s | (rw [up_n (by omega)]; first | with_reducible assumption | with_reducible exact up_s | (rw [up_n (by omega)]; first | with_reducible assumption | with_reducible exact up_s | (rw [up_n (by omega)]; first | with_reducible assumption | with_reducible exact up_s | (rw [up_n (by omega)]; first | with_reducible assumption | with_reducible exact up_s | (rw [up_n (by omega)]; first | with_reducible assumption | with_reducible exact up_s))))))))))))))))))))))) rfl (r_refuse G hmA 2) (m5 (gT_in q923 rfl) (gT_in q925 rfl) (gT_in q27 rfl) (gT_in q57 rfl) (gT_in q926 rfl)) rfl (show kpar yX11_refuse 1 from ⟨by decide, by decide, by decide +kernel⟩) ⟨by decide, by decide⟩ (by show _ ≤ (3 : Nat); omega) (by show _ ≤ (18 : Nat); omega) rfl (by first | decide | exact Nat.le_of_ble_eq_true rfl) dX11_piece_56 (fun v ad56 ct56 H locs hp hW hS => ?_)
        obtain ⟨rfl, h1, hv1, hr1⟩ := hp
        rw [h1] at hW
        rw [hQ]
        exact k_iret hx hb hr hlocks hW hS (by omega) (by omega) dX11_piece_59 (⟨_, rfl, Or.inl ⟨rfl, Or.inr (Or.inl ⟨⟨⟨i, hi, rfl⟩, hbad⟩, hv1, fun k9 a => (hr1 k9 a).trans (hA2 k9 a)⟩)⟩⟩)
      · try simp only [b2_eq, b3_eq, Decidable.not_not] at c30
        try dsimp only at c30
        refine lv_iload hx hb dX11_piece_33 (hL.at 4 rfl) ?_
        refine lv_iconst (v := 0) hx hb dX11_piece_35 (by decide) ?_
        refine lv_bipush (v := 40) hx hb dX11_piece_36 (by decide) ?_
        refine k_callS hx hb hml hown hts hI hS hW hL.1 (r_is G x4 0 40) (m4 (gT_in q920 rfl) (gT_in q921 rfl) (gT_in q57 rfl) (gT_in q922 rfl)) (show kpar yX11_is 3 from ⟨by decide, by decide, by decide +kernel⟩) ⟨by decide, by decide⟩ (by show _ ≤ (3 : Nat); omega) (by show _ ≤ (18 : Nat); omega) rfl (by first | decide | exact Nat.le_of_ble_eq_true rfl) dX11_piece_38 (fun v ad38 ct38 H locs hp hW hS => ?_)
        obtain ⟨rfl, h1, h2⟩ := hp
        rw [h1, h2] at hW
        refine lv_if_eq (tgt := 54) hx hb dX11_piece_41 (by decide) (fun c41 => ?_) (fun c41 => ?_)
        · try simp only [b2_eq, b3_eq, Decidable.not_not] at c41
          try dsimp only at c41
          have hbad : ¬ kPart x2 ∨ ¬ kPart x3 ∨ (x4 < 0 ∨ 40 < x4) ∨ (x5 < 1 ∨ 4 < x5) := Or.inr (Or.inr (Or.inl (c41)))
          refine lv_aload_n hx hb dX11_piece_54 rfl (hL.at 0 rfl) ?_
          refine lv_iconst (v := 2) hx hb dX11_piece_55 (by decide) ?_
          refine k_callV (q := (RX11, TX11, 13)) hx hb hml hown hts hK hI hS hW hL.1 (by first | with_reducible assumption | with_reducible exact up_s | (rw [up_n (by omega)]; first | with_reducible assumption | with_reducible exact up_s | (rw [up_n (by omega)]; first | with_reducible assumption | with_reducible exact up_s | (rw [up_n (by omega)]; first | with_reducible assumption | with_reducible exact up_s | (rw [up_n (by omega)]; first | with_reducible assumption | with_reducible exact up_s | (rw [up_n (by omega)]; first | with_reducible assumption | with_reducible exact up_s | (rw [up_n (by omega)]; first | with_reducible assumption | with_reducible exact up_s | (rw [up_n (by omega)]; first | with_reducible assumption | with_reducible exact up_s | (rw [up_n (by omega)]; first | with_reducible assumption | with_reducible exact up_s | (rw [up_n (by omega)]; first | with_reducible assumption | with_reducible exact up_s | (rw [up_n (by omega)]; first | with_reducible assumption | with_reducible exact up_s | (rw [up_n (by omega)]; first | with_reducible assumption | with_reducible exact up_s | (rw [up_n (by omega)]; first | with_reducible assumption | with_reducible exact up_s | (rw [up_n (by omega)]; first | with_reducible assumption | with_reducible exact up_s | (rw [up_n (by omega)]; first | with_reducible assumption | with_reducible exact up_s | (rw [up_n (by omega)]; first | with_reducible assumption | with_reducible exact up_s | (rw [up_n (by omega)]; first | with_reducible assumption | with_reducible exact up_s | (rw [up_n (by omega)]; first | with_reducible assumption | with_reducible exact up_s | (rw [up_n (by omega)]; first | with_reducible assumption | with_reducible exact up_s | (rw [up_n (by omega)]; first | with_reducible assumption | with_reducible exact up_s | (rw [up_n (by omega)]; first | with_reducible assumption | with_reducible exact up_s | (rw [up_n (by omega)]; first | with_reducible assumption | with_reducible exact up_s | (rw [up_n (by omega)]; first | with_reducible assumption | with_reducible exact up_s))))))))))))))))))))))) rfl (r_refuse G hmA 2) (m5 (gT_in q923 rfl) (gT_in q925 rfl) (gT_in q27 rfl) (gT_in q57 rfl) (gT_in q926 rfl)) rfl (show kpar yX11_refuse 1 from ⟨by decide, by decide, by decide +kernel⟩) ⟨by decide, by decide⟩ (by show _ ≤ (3 : Nat); omega) (by show _ ≤ (18 : Nat); omega) rfl (by first | decide | exact Nat.le_of_ble_eq_true rfl) dX11_piece_56 (fun v ad56 ct56 H locs hp hW hS => ?_)
          obtain ⟨rfl, h1, hv1, hr1⟩ := hp
          rw [h1] at hW
          rw [hQ]
          exact k_iret hx hb hr hlocks hW hS (by omega) (by omega) dX11_piece_59 (⟨_, rfl, Or.inl ⟨rfl, Or.inr (Or.inl ⟨⟨⟨i, hi, rfl⟩, hbad⟩, hv1, fun k9 a => (hr1 k9 a).trans (hA2 k9 a)⟩)⟩⟩)
        · try simp only [b2_eq, b3_eq, Decidable.not_not] at c41
          try dsimp only at c41
          refine lv_iload hx hb dX11_piece_44 (hL.at 5 rfl) ?_
          refine lv_iconst (v := 1) hx hb dX11_piece_46 (by decide) ?_
          refine lv_iconst (v := 4) hx hb dX11_piece_47 (by decide) ?_
          refine k_callS hx hb hml hown hts hI hS hW hL.1 (r_is G x5 1 4) (m4 (gT_in q920 rfl) (gT_in q921 rfl) (gT_in q57 rfl) (gT_in q922 rfl)) (show kpar yX11_is 3 from ⟨by decide, by decide, by decide +kernel⟩) ⟨by decide, by decide⟩ (by show _ ≤ (3 : Nat); omega) (by show _ ≤ (18 : Nat); omega) rfl (by first | decide | exact Nat.le_of_ble_eq_true rfl) dX11_piece_48 (fun v ad48 ct48 H locs hp hW hS => ?_)
          obtain ⟨rfl, h1, h2⟩ := hp
          rw [h1, h2] at hW
          refine lv_if_ne (tgt := 60) hx hb dX11_piece_51 (by decide) (fun c51 => ?_) (fun c51 => ?_)
          · try simp only [b2_eq, b3_eq, Decidable.not_not] at c51
            try dsimp only at c51
            have hgood : ¬ (¬ kPart x2 ∨ ¬ kPart x3 ∨ (x4 < 0 ∨ 40 < x4) ∨ (x5 < 1 ∨ 4 < x5)) := fun z => z.elim (fun z => c23 (isPart_iff.mpr z)) (fun z => z.elim (fun z => c30 (isPart_iff.mpr z)) (fun z => z.elim c41 c51))
            obtain ⟨p1, hpo1, hxp1⟩ : kPart x2 := Classical.not_not.mp (fun z => c23 (isPart_iff.mpr z))
            obtain ⟨p2, hpo2, hxp2⟩ : kPart x3 := Classical.not_not.mp (fun z => c30 (isPart_iff.mpr z))
            obtain ⟨es, -, he2, hxe⟩ := kIn_btw (a := 0) (b := 40) c41 (by decide)
            obtain ⟨cn, hn1, hn2, hxn⟩ := kIn_btw (a := 1) (b := 4) c51 (by decide)
            refine lv_aload_n hx hb dX11_piece_60 rfl (hL.at 0 rfl) ?_
            refine k_get (ci := 13) (C := RX11) (T := TX11) (N := 13) hx hb hts w_RX11 hown hK hW (by first | with_reducible assumption | with_reducible exact up_s | (rw [up_n (by omega)]; first | with_reducible assumption | with_reducible exact up_s | (rw [up_n (by omega)]; first | with_reducible assumption | with_reducible exact up_s | (rw [up_n (by omega)]; first | with_reducible assumption | with_reducible exact up_s | (rw [up_n (by omega)]; first | with_reducible assumption | with_reducible exact up_s | (rw [up_n (by omega)]; first | with_reducible assumption | with_reducible exact up_s | (rw [up_n (by omega)]; first | with_reducible assumption | with_reducible exact up_s | (rw [up_n (by omega)]; first | with_reducible assumption | with_reducible exact up_s | (rw [up_n (by omega)]; first | with_reducible assumption | with_reducible exact up_s | (rw [up_n (by omega)]; first | with_reducible assumption | with_reducible exact up_s | (rw [up_n (by omega)]; first | with_reducible assumption | with_reducible exact up_s | (rw [up_n (by omega)]; first | with_reducible assumption | with_reducible exact up_s | (rw [up_n (by omega)]; first | with_reducible assumption | with_reducible exact up_s | (rw [up_n (by omega)]; first | with_reducible assumption | with_reducible exact up_s | (rw [up_n (by omega)]; first | with_reducible assumption | with_reducible exact up_s | (rw [up_n (by omega)]; first | with_reducible assumption | with_reducible exact up_s | (rw [up_n (by omega)]; first | with_reducible assumption | with_reducible exact up_s | (rw [up_n (by omega)]; first | with_reducible assumption | with_reducible exact up_s | (rw [up_n (by omega)]; first | with_reducible assumption | with_reducible exact up_s | (rw [up_n (by omega)]; first | with_reducible assumption | with_reducible exact up_s | (rw [up_n (by omega)]; first | with_reducible assumption | with_reducible exact up_s | (rw [up_n (by omega)]; first | with_reducible assumption | with_reducible exact up_s | (rw [up_n (by omega)]; first | with_reducible assumption | with_reducible exact up_s))))))))))))))))))))))) rfl 3 (by decide) (hq _ q874 rfl) (fun _ h9 => h9) (by rfl) dX11_piece_61 ?_
            refine lv_iload_n hx hb dX11_piece_64 rfl (hL.at 1 rfl) ?_
            refine k_callV (q := (RJx4a65c, TJx4a65c, 3)) hx hb hml hown hts hK hI hS hW hL.1 hLA.1.2.2.1.1 rfl (c_jgetL G hLA.1.2.2.1 hi (by omega)) (m5 (gT_in q1030 rfl) (gT_in q1031 rfl) (gT_in q1032 rfl) (gT_in q60 rfl) (gT_in q1033 rfl)) rfl (show kpar yJx4a65c_get_915e3 1 from ⟨by decide, by decide, by decide +kernel⟩) ⟨by decide, by decide⟩ (by show _ ≤ (3 : Nat); omega) (by show _ ≤ (18 : Nat); omega) rfl (by first | decide | exact Nat.le_of_ble_eq_true rfl) dX11_piece_65 (fun v ad65 ct65 H locs hp hW hS => ?_)
            obtain ⟨rfl, h1, h2⟩ := hp
            rw [h1, h2] at hW
            refine k_castS (q := (RJx4a65c, TJx4a65c, 3)) hx hb hown (hq _ q842 rfl) hK hW hsl.1 rfl dX11_piece_68 ?_
            refine k_ast hx hb hL (i := 6) (by decide) dX11_piece_71 (fun ls hL => ?_)
            replace hL := hL.nrm (l' := [some _, some _, some _, some _, some _, some _, some _, none, none, none]) rfl
            refine lv_iconst (v := 0) hx hb dX11_piece_73 (by decide) ?_
            refine k_ist hx hb hL (i := 7) (by decide) dX11_piece_74 (fun ls hL => ?_)
            replace hL := hL.nrm (l' := [some _, some _, some _, some _, some _, some _, some _, some _, none, none]) rfl
            refine lv_aload_n hx hb dX11_piece_76 rfl (hL.at 0 rfl) ?_
            refine k_get (ci := 13) (C := RX11) (T := TX11) (N := 13) hx hb hts w_RX11 hown hK hW (by first | with_reducible assumption | with_reducible exact up_s | (rw [up_n (by omega)]; first | with_reducible assumption | with_reducible exact up_s | (rw [up_n (by omega)]; first | with_reducible assumption | with_reducible exact up_s | (rw [up_n (by omega)]; first | with_reducible assumption | with_reducible exact up_s | (rw [up_n (by omega)]; first | with_reducible assumption | with_reducible exact up_s | (rw [up_n (by omega)]; first | with_reducible assumption | with_reducible exact up_s | (rw [up_n (by omega)]; first | with_reducible assumption | with_reducible exact up_s | (rw [up_n (by omega)]; first | with_reducible assumption | with_reducible exact up_s | (rw [up_n (by omega)]; first | with_reducible assumption | with_reducible exact up_s | (rw [up_n (by omega)]; first | with_reducible assumption | with_reducible exact up_s | (rw [up_n (by omega)]; first | with_reducible assumption | with_reducible exact up_s | (rw [up_n (by omega)]; first | with_reducible assumption | with_reducible exact up_s | (rw [up_n (by omega)]; first | with_reducible assumption | with_reducible exact up_s | (rw [up_n (by omega)]; first | with_reducible assumption | with_reducible exact up_s | (rw [up_n (by omega)]; first | with_reducible assumption | with_reducible exact up_s | (rw [up_n (by omega)]; first | with_reducible assumption | with_reducible exact up_s | (rw [up_n (by omega)]; first | with_reducible assumption | with_reducible exact up_s | (rw [up_n (by omega)]; first | with_reducible assumption | with_reducible exact up_s | (rw [up_n (by omega)]; first | with_reducible assumption | with_reducible exact up_s | (rw [up_n (by omega)]; first | with_reducible assumption | with_reducible exact up_s | (rw [up_n (by omega)]; first | with_reducible assumption | with_reducible exact up_s | (rw [up_n (by omega)]; first | with_reducible assumption | with_reducible exact up_s | (rw [up_n (by omega)]; first | with_reducible assumption | with_reducible exact up_s))))))))))))))))))))))) rfl 4 (by decide) (hq _ q875 rfl) (fun _ h9 => h9) (by rfl) dX11_piece_77 ?_
            refine k_callV (q := (RJx4a65c, TJx4a65c, 3)) hx hb hml hown hts hK hI hS hW hL.1 hLA.1.2.2.2.1 rfl (c_jiter G (kz := 206) (kl := 104) (n := mO M) (by omega) (by omega) (hfA 206 (by omega)) hLA.1.2.2.2.1) (m5 (gT_in q1077 rfl) (gT_in q1078 rfl) (gT_in q1079 rfl) (gT_in q60 rfl) (gT_in q1080 rfl)) rfl (show kpar yJx4a65c_iterator_32c93 0 from ⟨by decide, by decide, by decide +kernel⟩) ⟨by decide, by decide⟩ (by show _ ≤ (3 : Nat); omega) (by show _ ≤ (18 : Nat); omega) rfl (by first | decide | exact Nat.le_of_ble_eq_true rfl) dX11_piece_80 (fun v ad80 ct80 H locs hp hW hS => ?_)
            obtain ⟨rfl, hda, hv3, hr3⟩ := hp
            rw [← hda 100 (by omega), ← hda (140 + i) (by omega)] at hL
            refine k_ast hx hb hL (i := 8) (by decide) dX11_piece_83 (fun ls hL => ?_)
            replace hL := hL.nrm (l' := [some _, some _, some _, some _, some _, some _, some _, some _, some _, none]) rfl
            have loop85 : ∀ (nf : Nat) (j : Nat) (lr tk : Int32) (ct1 : Nat → Option va_E), mO M - j < nf → j ≤ mO M → ct1 206 = some (oJt j lr (mO M) (ad80 104)) → (∀ k, k ≠ 206 → ct1 k = ctA k) → ((tk = 0 ∧ ∀ j2, j2 < j → ¬ oS (mod M j2) = i) ∨ (tk = 1 ∧ ∃ j2, j2 < j ∧ oS (mod M j2) = i)) → ∀ (H : Heap) (locs : List Loc) (ls : Array Slot), kW D s0.heap.size ad80 ct1 H → va_S (kA s0) s.heap H locs → lvP ls 10 [some (.ref (ad80 100)), some (.int (nI i)), some (.int x2), some (.int x3), some (.int x4), some (.int x5), some (.ref (ad80 (140 + i))), some (.int tk), some (.ref (ad80 206)), none] → W p l e (krm 6 190 3 18) s m args below meth c H locs 1 4 Q (F0 m 85 ls []) := by
              intro nf
              induction nf with
              | zero => intro j lr tk ct1 hms85; exact absurd hms85 (Nat.not_lt_zero _)
              | succ nf ih85 =>
                intro j lr tk ct1 hms85 hj hit hrk htk H locs ls hW hS hL
                refine lv_aload hx hb dX11_piece_85 (hL.at 8 rfl) ?_
                refine k_callF (q := (RJx35411, TJx35411, 4)) G hx hb hml hown hts hK hI hS hW hL.1 hit rfl (c_jhas G (kz := 206) (kl := 104) (n := mO M) hit ((hrk _ (by omega)).trans hLA.1.2.2.2.1) (by omega) (by omega)) (m5 (gT_in q1101 rfl) (gT_in q1105 rfl) (gT_in q1107 rfl) (gT_in q78 rfl) (gT_in q1109 rfl)) q1103 q1102 q1108 q1106 q1104 ⟨by decide, by decide, by decide +kernel⟩ ⟨by decide, by decide⟩ (by show _ ≤ (3 : Nat); omega) (by show _ ≤ (18 : Nat); omega) rfl (by first | decide | exact Nat.le_of_ble_eq_true rfl) dX11_piece_87 (fun v ad87 ct87 H locs hp hW hS => ?_)
                obtain ⟨rfl, h1, h2⟩ := hp
                rw [h1, h2] at hW
                refine lv_if_eq (tgt := 129) hx hb dX11_piece_92 (by decide) (fun c92 => ?_) (fun c92 => ?_)
                · try simp only [b2_eq, b3_eq, Decidable.not_not] at c92
                  try dsimp only at c92
                  have ej : j = mO M := c92
                  have hW := hW.back (ad := ad) (ct := ctA) (fun k9 e9 h9 => have q9 : k9 ≠ 206 := fun z => by rw [z, hfA 206 (by omega)] at h9; cases h9
                    ⟨(hrk k9 q9).trans h9, hda k9 q9⟩)
                  rw [hda 100 (by omega), hda (140 + i) (by omega)] at hL
                  refine lv_aload hx hb dX11_piece_129 (hL.at 6 rfl) ?_
                  refine k_callV (q := (RJx4a65c, TJx4a65c, 3)) hx hb hml hown hts hK hI hS hW hL.1 hsl.1 rfl (c_jsize G hsl.1) (m5 (gT_in q927 rfl) (gT_in q928 rfl) (gT_in q929 rfl) (gT_in q60 rfl) (gT_in q930 rfl)) rfl (show kpar yJx4a65c_size_8abf5 0 from ⟨by decide, by decide, by decide +kernel⟩) ⟨by decide, by decide⟩ (by show _ ≤ (3 : Nat); omega) (by show _ ≤ (18 : Nat); omega) rfl (by first | decide | exact Nat.le_of_ble_eq_true rfl) dX11_piece_131 (fun v ad131 ct131 H locs hp hW hS => ?_)
                  obtain ⟨rfl, h1, h2⟩ := hp
                  rw [h1, h2] at hW
                  refine lv_iconst (v := 5) hx hb dX11_piece_134 (by decide) ?_
                  refine lv_icmp_eq (tgt := 143) hx hb dX11_piece_135 (by decide) (fun c135 => ?_) (fun c135 => ?_)
                  · try dsimp only at c135
                    have hrf : (mst M i).1 = 5 ∨ ¬ (mst M i).2.2 = 0 := Or.inl ((nI_eq (b := 5) (by omega) (by omega)).mp c135)
                    refine lv_aload_n hx hb dX11_piece_143 rfl (hL.at 0 rfl) ?_
                    refine lv_iconst (v := 3) hx hb dX11_piece_144 (by decide) ?_
                    refine k_callV (q := (RX11, TX11, 13)) hx hb hml hown hts hK hI hS hW hL.1 (by first | with_reducible assumption | with_reducible exact up_s | (rw [up_n (by omega)]; first | with_reducible assumption | with_reducible exact up_s | (rw [up_n (by omega)]; first | with_reducible assumption | with_reducible exact up_s | (rw [up_n (by omega)]; first | with_reducible assumption | with_reducible exact up_s | (rw [up_n (by omega)]; first | with_reducible assumption | with_reducible exact up_s | (rw [up_n (by omega)]; first | with_reducible assumption | with_reducible exact up_s | (rw [up_n (by omega)]; first | with_reducible assumption | with_reducible exact up_s | (rw [up_n (by omega)]; first | with_reducible assumption | with_reducible exact up_s | (rw [up_n (by omega)]; first | with_reducible assumption | with_reducible exact up_s | (rw [up_n (by omega)]; first | with_reducible assumption | with_reducible exact up_s | (rw [up_n (by omega)]; first | with_reducible assumption | with_reducible exact up_s | (rw [up_n (by omega)]; first | with_reducible assumption | with_reducible exact up_s | (rw [up_n (by omega)]; first | with_reducible assumption | with_reducible exact up_s | (rw [up_n (by omega)]; first | with_reducible assumption | with_reducible exact up_s | (rw [up_n (by omega)]; first | with_reducible assumption | with_reducible exact up_s | (rw [up_n (by omega)]; first | with_reducible assumption | with_reducible exact up_s | (rw [up_n (by omega)]; first | with_reducible assumption | with_reducible exact up_s | (rw [up_n (by omega)]; first | with_reducible assumption | with_reducible exact up_s | (rw [up_n (by omega)]; first | with_reducible assumption | with_reducible exact up_s | (rw [up_n (by omega)]; first | with_reducible assumption | with_reducible exact up_s | (rw [up_n (by omega)]; first | with_reducible assumption | with_reducible exact up_s | (rw [up_n (by omega)]; first | with_reducible assumption | with_reducible exact up_s | (rw [up_n (by omega)]; first | with_reducible assumption | with_reducible exact up_s))))))))))))))))))))))) rfl (r_refuse G hmA 3) (m5 (gT_in q923 rfl) (gT_in q925 rfl) (gT_in q27 rfl) (gT_in q57 rfl) (gT_in q926 rfl)) rfl (show kpar yX11_refuse 1 from ⟨by decide, by decide, by decide +kernel⟩) ⟨by decide, by decide⟩ (by show _ ≤ (3 : Nat); omega) (by show _ ≤ (18 : Nat); omega) rfl (by first | decide | exact Nat.le_of_ble_eq_true rfl) dX11_piece_145 (fun v ad145 ct145 H locs hp hW hS => ?_)
                    obtain ⟨rfl, h1, hv1, hr1⟩ := hp
                    rw [h1] at hW
                    rw [hQ]
                    exact k_iret hx hb hr hlocks hW hS (by omega) (by omega) dX11_piece_148 (⟨_, rfl, Or.inl ⟨rfl, Or.inr (Or.inr ⟨⟨i, hi, rfl, hgood, hrf⟩, hv1, fun k9 a => (hr1 k9 a).trans (hA2 k9 a)⟩)⟩⟩)
                  · try dsimp only at c135
                    have hlt5 : (mst M i).1 < 5 := by
                      have h9 : ¬ (mst M i).1 = 5 := fun z => c135 (by rw [z]; rfl)
                      omega
                    refine lv_iload hx hb dX11_piece_138 (hL.at 7 rfl) ?_
                    refine lv_if_eq (tgt := 149) hx hb dX11_piece_140 (by decide) (fun c140 => ?_) (fun c140 => ?_)
                    · try simp only [b2_eq, b3_eq, Decidable.not_not] at c140
                      try dsimp only at c140
                      have hfl : (mst M i).2.2 = 0 := (hXs i hi).mpr (by
                        rcases htk with ⟨z, a⟩ | ⟨z, -⟩
                        · rw [ej] at a; exact a
                        · rw [z] at c140; exact absurd c140 (by decide))
                      subst hxp1
                      subst hxp2
                      subst hxe
                      subst hxn
                      refine lv_iconst (v := 4) hx hb dX11_piece_149 (by decide) ?_
                      refine k_newarr (atype := .int) hx hb (hq _ q1052 rfl) 1 hK rfl (fun C h => by cases h) hW hS hI.2.1 (150 + 5 * i + (mst M i).1) ((hA2 _ (by omega)).trans (hF.2.2.2.1 i (by omega) (mst M i).1 (fun _ => Nat.le_refl _) hlt5)) (N := 4) (a0 := (4, aI (fun _ => 0))) (fun _ => rfl) rfl (by omega) (by show _ * 4 ≤ (536870912 : Nat); omega) (by show _ ≤ (3 : Nat); omega) (by show _ ≤ (18 : Nat); omega) dX11_piece_150 (fun q150 H hW hS => ?_)
                      obtain ⟨ad1, hd150⟩ : ∃ z, z = upA ad (150 + 5 * i + (mst M i).1) q150 := ⟨_, rfl⟩
                      rw [← hd150] at hW ⊢
                      have hdk150 : ∀ j, j ≠ (150 + 5 * i + (mst M i).1) → ad1 j = ad j := fun j hj => by rw [hd150]; exact upA_n hj
                      rw [← hdk150 100 (by omega)] at hL
                      rw [← hdk150 (140 + i) (by omega)] at hL
                      refine lv_dup hx hb dX11_piece_152 rfl ?_
                      refine lv_iconst (v := 0) hx hb dX11_piece_153 (by decide) ?_
                      refine lv_iload_n hx hb dX11_piece_154 rfl (hL.at 2 rfl) ?_
                      refine k_iast hx hb hK hW hS (by first | with_reducible assumption | with_reducible exact up_s | (rw [up_n (by omega)]; first | with_reducible assumption | with_reducible exact up_s | (rw [up_n (by omega)]; first | with_reducible assumption | with_reducible exact up_s | (rw [up_n (by omega)]; first | with_reducible assumption | with_reducible exact up_s | (rw [up_n (by omega)]; first | with_reducible assumption | with_reducible exact up_s | (rw [up_n (by omega)]; first | with_reducible assumption | with_reducible exact up_s | (rw [up_n (by omega)]; first | with_reducible assumption | with_reducible exact up_s | (rw [up_n (by omega)]; first | with_reducible assumption | with_reducible exact up_s | (rw [up_n (by omega)]; first | with_reducible assumption | with_reducible exact up_s | (rw [up_n (by omega)]; first | with_reducible assumption | with_reducible exact up_s | (rw [up_n (by omega)]; first | with_reducible assumption | with_reducible exact up_s | (rw [up_n (by omega)]; first | with_reducible assumption | with_reducible exact up_s | (rw [up_n (by omega)]; first | with_reducible assumption | with_reducible exact up_s | (rw [up_n (by omega)]; first | with_reducible assumption | with_reducible exact up_s | (rw [up_n (by omega)]; first | with_reducible assumption | with_reducible exact up_s | (rw [up_n (by omega)]; first | with_reducible assumption | with_reducible exact up_s | (rw [up_n (by omega)]; first | with_reducible assumption | with_reducible exact up_s | (rw [up_n (by omega)]; first | with_reducible assumption | with_reducible exact up_s | (rw [up_n (by omega)]; first | with_reducible assumption | with_reducible exact up_s | (rw [up_n (by omega)]; first | with_reducible assumption | with_reducible exact up_s | (rw [up_n (by omega)]; first | with_reducible assumption | with_reducible exact up_s | (rw [up_n (by omega)]; first | with_reducible assumption | with_reducible exact up_s | (rw [up_n (by omega)]; first | with_reducible assumption | with_reducible exact up_s))))))))))))))))))))))) (by omega) 0 (by omega) (by omega) rfl dX11_piece_155 (fun H locs hW hS => ?_)
                      refine lv_dup hx hb dX11_piece_156 rfl ?_
                      refine lv_iconst (v := 1) hx hb dX11_piece_157 (by decide) ?_
                      refine lv_iload_n hx hb dX11_piece_158 rfl (hL.at 3 rfl) ?_
                      refine k_iast hx hb hK hW hS (by first | with_reducible assumption | with_reducible exact up_s | (rw [up_n (by omega)]; first | with_reducible assumption | with_reducible exact up_s | (rw [up_n (by omega)]; first | with_reducible assumption | with_reducible exact up_s | (rw [up_n (by omega)]; first | with_reducible assumption | with_reducible exact up_s | (rw [up_n (by omega)]; first | with_reducible assumption | with_reducible exact up_s | (rw [up_n (by omega)]; first | with_reducible assumption | with_reducible exact up_s | (rw [up_n (by omega)]; first | with_reducible assumption | with_reducible exact up_s | (rw [up_n (by omega)]; first | with_reducible assumption | with_reducible exact up_s | (rw [up_n (by omega)]; first | with_reducible assumption | with_reducible exact up_s | (rw [up_n (by omega)]; first | with_reducible assumption | with_reducible exact up_s | (rw [up_n (by omega)]; first | with_reducible assumption | with_reducible exact up_s | (rw [up_n (by omega)]; first | with_reducible assumption | with_reducible exact up_s | (rw [up_n (by omega)]; first | with_reducible assumption | with_reducible exact up_s | (rw [up_n (by omega)]; first | with_reducible assumption | with_reducible exact up_s | (rw [up_n (by omega)]; first | with_reducible assumption | with_reducible exact up_s | (rw [up_n (by omega)]; first | with_reducible assumption | with_reducible exact up_s | (rw [up_n (by omega)]; first | with_reducible assumption | with_reducible exact up_s | (rw [up_n (by omega)]; first | with_reducible assumption | with_reducible exact up_s | (rw [up_n (by omega)]; first | with_reducible assumption | with_reducible exact up_s | (rw [up_n (by omega)]; first | with_reducible assumption | with_reducible exact up_s | (rw [up_n (by omega)]; first | with_reducible assumption | with_reducible exact up_s | (rw [up_n (by omega)]; first | with_reducible assumption | with_reducible exact up_s | (rw [up_n (by omega)]; first | with_reducible assumption | with_reducible exact up_s))))))))))))))))))))))) (by omega) 1 (by omega) (by omega) rfl dX11_piece_159 (fun H locs hW hS => ?_)
                      refine lv_dup hx hb dX11_piece_160 rfl ?_
                      refine lv_iconst (v := 2) hx hb dX11_piece_161 (by decide) ?_
                      refine lv_iload hx hb dX11_piece_162 (hL.at 4 rfl) ?_
                      refine k_iast hx hb hK hW hS (by first | with_reducible assumption | with_reducible exact up_s | (rw [up_n (by omega)]; first | with_reducible assumption | with_reducible exact up_s | (rw [up_n (by omega)]; first | with_reducible assumption | with_reducible exact up_s | (rw [up_n (by omega)]; first | with_reducible assumption | with_reducible exact up_s | (rw [up_n (by omega)]; first | with_reducible assumption | with_reducible exact up_s | (rw [up_n (by omega)]; first | with_reducible assumption | with_reducible exact up_s | (rw [up_n (by omega)]; first | with_reducible assumption | with_reducible exact up_s | (rw [up_n (by omega)]; first | with_reducible assumption | with_reducible exact up_s | (rw [up_n (by omega)]; first | with_reducible assumption | with_reducible exact up_s | (rw [up_n (by omega)]; first | with_reducible assumption | with_reducible exact up_s | (rw [up_n (by omega)]; first | with_reducible assumption | with_reducible exact up_s | (rw [up_n (by omega)]; first | with_reducible assumption | with_reducible exact up_s | (rw [up_n (by omega)]; first | with_reducible assumption | with_reducible exact up_s | (rw [up_n (by omega)]; first | with_reducible assumption | with_reducible exact up_s | (rw [up_n (by omega)]; first | with_reducible assumption | with_reducible exact up_s | (rw [up_n (by omega)]; first | with_reducible assumption | with_reducible exact up_s | (rw [up_n (by omega)]; first | with_reducible assumption | with_reducible exact up_s | (rw [up_n (by omega)]; first | with_reducible assumption | with_reducible exact up_s | (rw [up_n (by omega)]; first | with_reducible assumption | with_reducible exact up_s | (rw [up_n (by omega)]; first | with_reducible assumption | with_reducible exact up_s | (rw [up_n (by omega)]; first | with_reducible assumption | with_reducible exact up_s | (rw [up_n (by omega)]; first | with_reducible assumption | with_reducible exact up_s | (rw [up_n (by omega)]; first | with_reducible assumption | with_reducible exact up_s))))))))))))))))))))))) (by omega) 2 (by omega) (by omega) rfl dX11_piece_164 (fun H locs hW hS => ?_)
                      refine lv_dup hx hb dX11_piece_165 rfl ?_
                      refine lv_iconst (v := 3) hx hb dX11_piece_166 (by decide) ?_
                      refine lv_iload hx hb dX11_piece_167 (hL.at 5 rfl) ?_
                      refine k_iast hx hb hK hW hS (by first | with_reducible assumption | with_reducible exact up_s | (rw [up_n (by omega)]; first | with_reducible assumption | with_reducible exact up_s | (rw [up_n (by omega)]; first | with_reducible assumption | with_reducible exact up_s | (rw [up_n (by omega)]; first | with_reducible assumption | with_reducible exact up_s | (rw [up_n (by omega)]; first | with_reducible assumption | with_reducible exact up_s | (rw [up_n (by omega)]; first | with_reducible assumption | with_reducible exact up_s | (rw [up_n (by omega)]; first | with_reducible assumption | with_reducible exact up_s | (rw [up_n (by omega)]; first | with_reducible assumption | with_reducible exact up_s | (rw [up_n (by omega)]; first | with_reducible assumption | with_reducible exact up_s | (rw [up_n (by omega)]; first | with_reducible assumption | with_reducible exact up_s | (rw [up_n (by omega)]; first | with_reducible assumption | with_reducible exact up_s | (rw [up_n (by omega)]; first | with_reducible assumption | with_reducible exact up_s | (rw [up_n (by omega)]; first | with_reducible assumption | with_reducible exact up_s | (rw [up_n (by omega)]; first | with_reducible assumption | with_reducible exact up_s | (rw [up_n (by omega)]; first | with_reducible assumption | with_reducible exact up_s | (rw [up_n (by omega)]; first | with_reducible assumption | with_reducible exact up_s | (rw [up_n (by omega)]; first | with_reducible assumption | with_reducible exact up_s | (rw [up_n (by omega)]; first | with_reducible assumption | with_reducible exact up_s | (rw [up_n (by omega)]; first | with_reducible assumption | with_reducible exact up_s | (rw [up_n (by omega)]; first | with_reducible assumption | with_reducible exact up_s | (rw [up_n (by omega)]; first | with_reducible assumption | with_reducible exact up_s | (rw [up_n (by omega)]; first | with_reducible assumption | with_reducible exact up_s | (rw [up_n (by omega)]; first | with_reducible assumption | with_reducible exact up_s))))))))))))))))))))))) (by omega) 3 (by omega) (by omega) rfl dX11_piece_169 (fun H locs hW hS => ?_)
                      obtain ⟨ctB, hB1, hB2, hW⟩ := kW_gen hW
                      have hBk : ∀ j, j ≠ (150 + 5 * i + (mst M i).1) → ctB j = ctA j := fun j hj => (hB2 j hj).trans (by repeat (first | rfl | refine (up_n hj).trans ?_))
                      rw [fI4_new] at hB1
                      have hmB : ctB 100 = some (oMod ad M 0 sm) := (hBk 100 (by omega)).trans hmA
                      have hlB : rLst cy ad1 ctB (140 + i) (144 + i) (150 + 5 * i) (mst M i).1 := hsl.mvk (kz := (150 + 5 * i + (mst M i).1)) (fun j a => ⟨hdk150 j a, hBk j a⟩) (by omega) (by omega) (by omega) (fun q hq => by omega)
                      have hB0 := (hBk 0 (by omega)).trans hLA.2.2.2.2.2.2.2.2
                      have hem1 : ad1 0 = em := (hdk150 0 (by omega)).trans hem
                      refine k_ast hx hb hL (i := 8) (by decide) dX11_piece_170 (fun ls hL => ?_)
                      replace hL := hL.nrm (l' := [some _, some _, some _, some _, some _, some _, some _, some _, some _, none]) rfl
                      refine lv_aload hx hb dX11_piece_172 (hL.at 6 rfl) ?_
                      refine lv_aload hx hb dX11_piece_174 (hL.at 8 rfl) ?_
                      refine k_callV (q := (RJx4a65c, TJx4a65c, 3)) hx hb hml hown hts hK hI hS hW hL.1 hlB.1 rfl (c_jadd G (kl := 140 + i) (kd := 144 + i) (base := 150 + 5 * i) (n := (mst M i).1) (by omega) (by omega) (by omega) (by omega) hB0 hem1 hlB (by omega) (by omega) hB1 (Or.inr ⟨_, rfl⟩)) (m5 (gT_in q958 rfl) (gT_in q959 rfl) (gT_in q960 rfl) (gT_in q60 rfl) (gT_in q961 rfl)) rfl (show kpar yJx4a65c_add_9ea2d 1 from ⟨by decide, by decide, by decide +kernel⟩) ⟨by decide, by decide⟩ (by show _ ≤ (3 : Nat); omega) (by show _ ≤ (18 : Nat); omega) rfl (by first | decide | exact Nat.le_of_ble_eq_true rfl) dX11_piece_176 (fun v ad176 ct176 H locs hp hW hS => ?_)
                      obtain ⟨rfl, hdz, hdz2, hvl, hvd, hr9⟩ := hp
                      rw [← hdz 100 (by omega), ← hdz (140 + i) (by omega)] at hL
                      have hm9 := (hr9 100 (by omega) (by omega)).trans hmB
                      refine lv_pop hx hb dX11_piece_179 rfl ?_
                      refine lv_aload hx hb dX11_piece_180 (hL.at 6 rfl) ?_
                      refine k_callV (q := (RJx4a65c, TJx4a65c, 3)) hx hb hml hown hts hK hI hS hW hL.1 hvl rfl (c_jsize G hvl) (m5 (gT_in q927 rfl) (gT_in q928 rfl) (gT_in q929 rfl) (gT_in q60 rfl) (gT_in q930 rfl)) rfl (show kpar yJx4a65c_size_8abf5 0 from ⟨by decide, by decide, by decide +kernel⟩) ⟨by decide, by decide⟩ (by show _ ≤ (3 : Nat); omega) (by show _ ≤ (18 : Nat); omega) rfl (by first | decide | exact Nat.le_of_ble_eq_true rfl) dX11_piece_182 (fun v ad182 ct182 H locs hp hW hS => ?_)
                      obtain ⟨rfl, h1, h2⟩ := hp
                      rw [h1, h2] at hW
                      rw [hQ]
                      exact k_iret hx hb hr hlocks hW hS (by omega) (by omega) dX11_piece_185 (⟨_, rfl, Or.inr ⟨i, p1, p2, es, cn, hi, rfl, ⟨hpo1, rfl⟩, ⟨hpo2, rfl⟩, ⟨he2, rfl⟩, ⟨hn1, hn2, rfl⟩, hlt5, hfl, rfl, fun j a b => (hdz j a).trans (hdk150 j b), fun z => (hdz2 z).trans (hdk150 (144 + i) (by omega)), rLst_of hvl hvd, (hr9 _ (by omega) (by omega)).trans hB1, hm9, fun k9 a b d f => (hr9 k9 b d).trans ((hBk k9 f).trans (hA2 k9 a))⟩⟩)
                    · try simp only [b2_eq, b3_eq, Decidable.not_not] at c140
                      try dsimp only at c140
                      have hrf : (mst M i).1 = 5 ∨ ¬ (mst M i).2.2 = 0 := Or.inr (fun z9 => by
                        rcases htk with ⟨z, a⟩ | ⟨z, j2, a, b⟩
                        · exact c140 z
                        · exact (hXs i hi).mp z9 j2 (by omega) b)
                      refine lv_aload_n hx hb dX11_piece_143 rfl (hL.at 0 rfl) ?_
                      refine lv_iconst (v := 3) hx hb dX11_piece_144 (by decide) ?_
                      refine k_callV (q := (RX11, TX11, 13)) hx hb hml hown hts hK hI hS hW hL.1 (by first | with_reducible assumption | with_reducible exact up_s | (rw [up_n (by omega)]; first | with_reducible assumption | with_reducible exact up_s | (rw [up_n (by omega)]; first | with_reducible assumption | with_reducible exact up_s | (rw [up_n (by omega)]; first | with_reducible assumption | with_reducible exact up_s | (rw [up_n (by omega)]; first | with_reducible assumption | with_reducible exact up_s | (rw [up_n (by omega)]; first | with_reducible assumption | with_reducible exact up_s | (rw [up_n (by omega)]; first | with_reducible assumption | with_reducible exact up_s | (rw [up_n (by omega)]; first | with_reducible assumption | with_reducible exact up_s | (rw [up_n (by omega)]; first | with_reducible assumption | with_reducible exact up_s | (rw [up_n (by omega)]; first | with_reducible assumption | with_reducible exact up_s | (rw [up_n (by omega)]; first | with_reducible assumption | with_reducible exact up_s | (rw [up_n (by omega)]; first | with_reducible assumption | with_reducible exact up_s | (rw [up_n (by omega)]; first | with_reducible assumption | with_reducible exact up_s | (rw [up_n (by omega)]; first | with_reducible assumption | with_reducible exact up_s | (rw [up_n (by omega)]; first | with_reducible assumption | with_reducible exact up_s | (rw [up_n (by omega)]; first | with_reducible assumption | with_reducible exact up_s | (rw [up_n (by omega)]; first | with_reducible assumption | with_reducible exact up_s | (rw [up_n (by omega)]; first | with_reducible assumption | with_reducible exact up_s | (rw [up_n (by omega)]; first | with_reducible assumption | with_reducible exact up_s | (rw [up_n (by omega)]; first | with_reducible assumption | with_reducible exact up_s | (rw [up_n (by omega)]; first | with_reducible assumption | with_reducible exact up_s | (rw [up_n (by omega)]; first | with_reducible assumption | with_reducible exact up_s | (rw [up_n (by omega)]; first | with_reducible assumption | with_reducible exact up_s))))))))))))))))))))))) rfl (r_refuse G hmA 3) (m5 (gT_in q923 rfl) (gT_in q925 rfl) (gT_in q27 rfl) (gT_in q57 rfl) (gT_in q926 rfl)) rfl (show kpar yX11_refuse 1 from ⟨by decide, by decide, by decide +kernel⟩) ⟨by decide, by decide⟩ (by show _ ≤ (3 : Nat); omega) (by show _ ≤ (18 : Nat); omega) rfl (by first | decide | exact Nat.le_of_ble_eq_true rfl) dX11_piece_145 (fun v ad145 ct145 H locs hp hW hS => ?_)
                      obtain ⟨rfl, h1, hv1, hr1⟩ := hp
                      rw [h1] at hW
                      rw [hQ]
                      exact k_iret hx hb hr hlocks hW hS (by omega) (by omega) dX11_piece_148 (⟨_, rfl, Or.inl ⟨rfl, Or.inr (Or.inr ⟨⟨i, hi, rfl, hgood, hrf⟩, hv1, fun k9 a => (hr1 k9 a).trans (hA2 k9 a)⟩)⟩⟩)
                · try simp only [b2_eq, b3_eq, Decidable.not_not] at c92
                  try dsimp only at c92
                  have hlt : j < mO M := by
                    have h9 : ¬ j = mO M := c92
                    omega
                  refine lv_aload hx hb dX11_piece_95 (hL.at 8 rfl) ?_
                  refine k_callF (q := (RJx35411, TJx35411, 4)) G hx hb hml hown hts hK hI hS hW hL.1 hit rfl (c_jnext G (kz := 206) (kl := 104) (kd := 114) (N := 10) (by omega) (by omega) (by omega) hit (by rw [hda _ (by omega)]; exact (hrk _ (by omega)).trans (hLA.1.2.2.2.get hlt).1) ((hrk _ (by omega)).trans (hLA.1.2.2.2.get hlt).2.1) hlt (by omega) (by omega) (hLA.1.2.2.2.get hlt).2.2) (m5 (gT_in q1111 rfl) (gT_in q1114 rfl) (gT_in q1116 rfl) (gT_in q78 rfl) (gT_in q1118 rfl)) q1113 q1112 q1117 q1115 q1104 ⟨by decide, by decide, by decide +kernel⟩ ⟨by decide, by decide⟩ (by show _ ≤ (3 : Nat); omega) (by show _ ≤ (18 : Nat); omega) rfl (by first | decide | exact Nat.le_of_ble_eq_true rfl) dX11_piece_97 (fun v ad97 ct97 H locs hp hW hS => ?_)
                  obtain ⟨rfl, h1, hv4, hr4⟩ := hp
                  rw [h1] at hW
                  rw [← hda (170 + j) (by omega)]
                  have hoj := (hr4 (170 + j) (by omega)).trans ((hrk _ (by omega)).trans (rOrd hLA ho hlt).1)
                  have hosj := (rOrd hLA ho hlt).2.2.2.1
                  refine k_castS (q := (RX10, TX10, 10)) hx hb hown (hq _ q1123 rfl) hK hW hoj rfl dX11_piece_102 ?_
                  refine k_ast hx hb hL (i := 9) (by decide) dX11_piece_105 (fun ls hL => ?_)
                  replace hL := hL.nrm (l' := [some _, some _, some _, some _, some _, some _, some _, some _, some _, some _]) rfl
                  refine lv_iload hx hb dX11_piece_107 (hL.at 7 rfl) ?_
                  refine lv_aload hx hb dX11_piece_109 (hL.at 9 rfl) ?_
                  refine k_getN (ci := 12) (C := RX10) (T := TX10) (N := 10) hx hb hts w_RX10 hown hK hW hoj rfl 1 (by decide) (hq _ q1144 rfl) (fun _ h9 => h9) (by rfl) dX11_piece_111 ?_
                  refine lv_iload_n hx hb dX11_piece_114 rfl (hL.at 1 rfl) ?_
                  refine lv_icmp_ne (tgt := 122) hx hb dX11_piece_115 (by decide) (fun c115 => ?_) (fun c115 => ?_)
                  · try dsimp only at c115
                    have htk2 : (tk ||| 0 = 0 ∧ ∀ j2, j2 < j + 1 → ¬ oS (mod M j2) = i) ∨ (tk ||| 0 = 1 ∧ ∃ j2, j2 < j + 1 ∧ oS (mod M j2) = i) := by
                      have h9 : ¬ oS (mod M j) = i := fun z => c115 (by rw [z])
                      rcases htk with ⟨z, a⟩ | ⟨z, j2, a, b⟩
                      · refine Or.inl ⟨by rw [z]; decide, fun j2 hj2 => ?_⟩
                        by_cases e : j2 = j
                        · rw [e]; exact h9
                        · exact a j2 (by omega)
                      · exact Or.inr ⟨by rw [z]; decide, j2, by omega, b⟩
                    refine lv_iconst (v := 0) hx hb dX11_piece_122 (by decide) ?_
                    refine lv_ior hx hb dX11_piece_123 ?_
                    refine k_ist hx hb hL (i := 7) (by decide) dX11_piece_124 (fun ls hL => ?_)
                    replace hL := hL.nrm (l' := [some _, some _, some _, some _, some _, some _, some _, some _, some _, some _]) rfl
                    refine lv_goto (tgt := 85) hx hb dX11_piece_126 (by decide) ?_
                    exact ih85 (j + 1) _ _ _ (by omega) (by omega) (by rw [hda 104 (by omega)] at hv4 ⊢; exact hv4) (fun k a => (hr4 k a).trans (hrk k a)) htk2 _ _ _ hW hS (hL.le (by repeat (first | exact kle_nil | refine kle_same ?_ | refine kle_drop ?_)))
                  · try dsimp only at c115
                    have htk2 : (tk ||| 1 = 0 ∧ ∀ j2, j2 < j + 1 → ¬ oS (mod M j2) = i) ∨ (tk ||| 1 = 1 ∧ ∃ j2, j2 < j + 1 ∧ oS (mod M j2) = i) := by
                      have h9 : oS (mod M j) = i := (nI_eq (by omega) (by omega)).mp (by first | exact c115 | exact Decidable.not_not.mp c115)
                      rcases htk with ⟨z, a⟩ | ⟨z, j2, a, b⟩
                      · exact Or.inr ⟨by rw [z]; decide, j, by omega, h9⟩
                      · exact Or.inr ⟨by rw [z]; decide, j, by omega, h9⟩
                    refine lv_iconst (v := 1) hx hb dX11_piece_118 (by decide) ?_
                    refine lv_goto (tgt := 123) hx hb dX11_piece_119 (by decide) ?_
                    refine lv_ior hx hb dX11_piece_123 ?_
                    refine k_ist hx hb hL (i := 7) (by decide) dX11_piece_124 (fun ls hL => ?_)
                    replace hL := hL.nrm (l' := [some _, some _, some _, some _, some _, some _, some _, some _, some _, some _]) rfl
                    refine lv_goto (tgt := 85) hx hb dX11_piece_126 (by decide) ?_
                    exact ih85 (j + 1) _ _ _ (by omega) (by omega) (by rw [hda 104 (by omega)] at hv4 ⊢; exact hv4) (fun k a => (hr4 k a).trans (hrk k a)) htk2 _ _ _ hW hS (hL.le (by repeat (first | exact kle_nil | refine kle_same ?_ | refine kle_drop ?_)))
            exact loop85 (mO M + 1) 0 _ 0 _ (by omega) (Nat.zero_le _) (by rw [hda 104 (by omega)]; exact hv3) hr3 (Or.inl ⟨rfl, fun j2 h => absurd h (Nat.not_lt_zero _)⟩) _ _ _ hW hS (hL.le (by repeat (first | exact kle_nil | refine kle_same ?_ | refine kle_drop ?_)))
          · try simp only [b2_eq, b3_eq, Decidable.not_not] at c51
            try dsimp only at c51
            have hbad : ¬ kPart x2 ∨ ¬ kPart x3 ∨ (x4 < 0 ∨ 40 < x4) ∨ (x5 < 1 ∨ 4 < x5) := Or.inr (Or.inr (Or.inr (c51)))
            refine lv_aload_n hx hb dX11_piece_54 rfl (hL.at 0 rfl) ?_
            refine lv_iconst (v := 2) hx hb dX11_piece_55 (by decide) ?_
            refine k_callV (q := (RX11, TX11, 13)) hx hb hml hown hts hK hI hS hW hL.1 (by first | with_reducible assumption | with_reducible exact up_s | (rw [up_n (by omega)]; first | with_reducible assumption | with_reducible exact up_s | (rw [up_n (by omega)]; first | with_reducible assumption | with_reducible exact up_s | (rw [up_n (by omega)]; first | with_reducible assumption | with_reducible exact up_s | (rw [up_n (by omega)]; first | with_reducible assumption | with_reducible exact up_s | (rw [up_n (by omega)]; first | with_reducible assumption | with_reducible exact up_s | (rw [up_n (by omega)]; first | with_reducible assumption | with_reducible exact up_s | (rw [up_n (by omega)]; first | with_reducible assumption | with_reducible exact up_s | (rw [up_n (by omega)]; first | with_reducible assumption | with_reducible exact up_s | (rw [up_n (by omega)]; first | with_reducible assumption | with_reducible exact up_s | (rw [up_n (by omega)]; first | with_reducible assumption | with_reducible exact up_s | (rw [up_n (by omega)]; first | with_reducible assumption | with_reducible exact up_s | (rw [up_n (by omega)]; first | with_reducible assumption | with_reducible exact up_s | (rw [up_n (by omega)]; first | with_reducible assumption | with_reducible exact up_s | (rw [up_n (by omega)]; first | with_reducible assumption | with_reducible exact up_s | (rw [up_n (by omega)]; first | with_reducible assumption | with_reducible exact up_s | (rw [up_n (by omega)]; first | with_reducible assumption | with_reducible exact up_s | (rw [up_n (by omega)]; first | with_reducible assumption | with_reducible exact up_s | (rw [up_n (by omega)]; first | with_reducible assumption | with_reducible exact up_s | (rw [up_n (by omega)]; first | with_reducible assumption | with_reducible exact up_s | (rw [up_n (by omega)]; first | with_reducible assumption | with_reducible exact up_s | (rw [up_n (by omega)]; first | with_reducible assumption | with_reducible exact up_s | (rw [up_n (by omega)]; first | with_reducible assumption | with_reducible exact up_s))))))))))))))))))))))) rfl (r_refuse G hmA 2) (m5 (gT_in q923 rfl) (gT_in q925 rfl) (gT_in q27 rfl) (gT_in q57 rfl) (gT_in q926 rfl)) rfl (show kpar yX11_refuse 1 from ⟨by decide, by decide, by decide +kernel⟩) ⟨by decide, by decide⟩ (by show _ ≤ (3 : Nat); omega) (by show _ ≤ (18 : Nat); omega) rfl (by first | decide | exact Nat.le_of_ble_eq_true rfl) dX11_piece_56 (fun v ad56 ct56 H locs hp hW hS => ?_)
            obtain ⟨rfl, h1, hv1, hr1⟩ := hp
            rw [h1] at hW
            rw [hQ]
            exact k_iret hx hb hr hlocks hW hS (by omega) (by omega) dX11_piece_59 (⟨_, rfl, Or.inl ⟨rfl, Or.inr (Or.inl ⟨⟨⟨i, hi, rfl⟩, hbad⟩, hv1, fun k9 a => (hr1 k9 a).trans (hA2 k9 a)⟩)⟩⟩)
  · try simp only [b2_eq, b3_eq, Decidable.not_not] at c10
    try dsimp only at c10
    have hno10 : ¬ kIn x1 (mS M) := (kIn_m1 (by omega)).mp c10
    refine lv_aload_n hx hb dX11_piece_13 rfl (hL.at 0 rfl) ?_
    refine lv_iconst (v := 1) hx hb dX11_piece_14 (by decide) ?_
    refine k_callV (q := (RX11, TX11, 13)) hx hb hml hown hts hK hI hS hW hL.1 (by first | with_reducible assumption | with_reducible exact up_s | (rw [up_n (by omega)]; first | with_reducible assumption | with_reducible exact up_s | (rw [up_n (by omega)]; first | with_reducible assumption | with_reducible exact up_s | (rw [up_n (by omega)]; first | with_reducible assumption | with_reducible exact up_s | (rw [up_n (by omega)]; first | with_reducible assumption | with_reducible exact up_s | (rw [up_n (by omega)]; first | with_reducible assumption | with_reducible exact up_s | (rw [up_n (by omega)]; first | with_reducible assumption | with_reducible exact up_s | (rw [up_n (by omega)]; first | with_reducible assumption | with_reducible exact up_s | (rw [up_n (by omega)]; first | with_reducible assumption | with_reducible exact up_s | (rw [up_n (by omega)]; first | with_reducible assumption | with_reducible exact up_s | (rw [up_n (by omega)]; first | with_reducible assumption | with_reducible exact up_s | (rw [up_n (by omega)]; first | with_reducible assumption | with_reducible exact up_s | (rw [up_n (by omega)]; first | with_reducible assumption | with_reducible exact up_s | (rw [up_n (by omega)]; first | with_reducible assumption | with_reducible exact up_s | (rw [up_n (by omega)]; first | with_reducible assumption | with_reducible exact up_s | (rw [up_n (by omega)]; first | with_reducible assumption | with_reducible exact up_s | (rw [up_n (by omega)]; first | with_reducible assumption | with_reducible exact up_s | (rw [up_n (by omega)]; first | with_reducible assumption | with_reducible exact up_s | (rw [up_n (by omega)]; first | with_reducible assumption | with_reducible exact up_s | (rw [up_n (by omega)]; first | with_reducible assumption | with_reducible exact up_s | (rw [up_n (by omega)]; first | with_reducible assumption | with_reducible exact up_s | (rw [up_n (by omega)]; first | with_reducible assumption | with_reducible exact up_s | (rw [up_n (by omega)]; first | with_reducible assumption | with_reducible exact up_s))))))))))))))))))))))) rfl (r_refuse G hmA 1) (m5 (gT_in q923 rfl) (gT_in q925 rfl) (gT_in q27 rfl) (gT_in q57 rfl) (gT_in q926 rfl)) rfl (show kpar yX11_refuse 1 from ⟨by decide, by decide, by decide +kernel⟩) ⟨by decide, by decide⟩ (by show _ ≤ (3 : Nat); omega) (by show _ ≤ (18 : Nat); omega) rfl (by first | decide | exact Nat.le_of_ble_eq_true rfl) dX11_piece_15 (fun v ad15 ct15 H locs hp hW hS => ?_)
    obtain ⟨rfl, h1, hv1, hr1⟩ := hp
    rw [h1] at hW
    rw [hQ]
    exact k_iret hx hb hr hlocks hW hS (by omega) (by omega) dX11_piece_18 (⟨_, rfl, Or.inl ⟨rfl, Or.inl ⟨hno10, hv1, fun k9 a => (hr1 k9 a).trans (hA2 k9 a)⟩⟩⟩)
