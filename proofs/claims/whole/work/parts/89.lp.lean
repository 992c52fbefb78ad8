/-! the law: one turn of its loop, and all of them -/
theorem and31 (x : Int32) : ∃ k : Nat, k < 32 ∧ x &&& 31 = nI k := by
  refine ⟨(x &&& 31).toBitVec.toNat, ?_, ?_⟩
  · rw [Int32.toBitVec_and, BitVec.toNat_and]
    exact Nat.lt_of_le_of_lt Nat.and_le_right (by decide)
  · apply Int32.toBitVec_inj.mp
    show _ = (Int32.ofNat _).toBitVec
    rw [Int32.toBitVec_ofNat']
    exact (BitVec.ofNat_toNat _ _).symm ▸ (BitVec.setWidth_eq _).symm
theorem gt7 {a L : Nat} (ha : a ≤ 4000) (hL : L ≤ 3584) : Int32.ofNat L - 7 < nI a ↔ L < a + 7 := by
  have h1 : (Int32.ofNat L).toInt = L := Int32.toInt_ofNat_of_lt (by omega)
  have h3 : (nI a).toInt = a := Int32.toInt_ofNat_of_lt (by omega)
  have h2 : (Int32.ofNat L - 7).toInt = (L : Int) - 7 := by
    rw [Int32.toInt_sub, h1]
    exact Int.bmod_eq_of_le (by show -(2 ^ 32 / 2 : Int) ≤ (L : Int) - 7; omega) (by show (L : Int) - 7 < ((2 ^ 32 : Int) + 1) / 2; omega)
  rw [Int32.lt_iff_toInt_lt, h2, h3]
  omega
set_option maxHeartbeats 4000000 in
set_option maxRecDepth 100000 in
theorem law_step {l : Launch} {D : va_G} {cy : Nat → ClassId} {sad : Nat → Nat} {em : Nat} {s0 : State} {a0 : Array Value} (G : kG kSTR l D cy sad em s0 a0) {p : Program} {e : Env} {s : State} {m : MethodId} {args : Array Value} {below : List Frame} {meth : Method} {c : Code} {H : Heap} {locs : List Loc} {cells slots : Nat} {Q : State → Prop} {ls : Array Slot} {b L : Nat} {xs : Nat → Int32} {nb : Nat} {M : tM} {ad : Nat → Nat} {ct : Nat → Option va_E}
    (hx : p.tables.exec = Jvm.exec) (hb : c.code = cL_law) (hml : c.maxLocals = 10) (hown : s.vm.findClass "TailorBenchLaw" = some m.cls) (hts : ∀ w ∈ gT, w.before args s = true) (hq : ∀ w ∈ lw_tbl, kgood w = true → w.before args s = true) (hK : va_K D vwCl (ktys cy) s) (hI : kI s0 s) (hX : va_X b L xs s s.heap) (hbl : b < s.heap.size) (hbA : ¬ kA s0 b) (N3 : kN3 s0) (hnb : 7 * nb + 7 ≤ L) (hL3 : L ≤ 3584) (h0 : lI cy em nb M ad ct) (hW : kW D s0.heap.size ad ct H) (hS : va_S (kA s0) s.heap H locs) (hL : lvP ls 10 [some (.ref b), some (.ref (ad 1)), some (.ref (ad 100)), some (.ref (ad 90)), some (.ref (ad 91)), some (.int (nI (7 * nb))), none, none, none, none]) (hcl : cells + 900 ≤ 601024) (hsl : slots + 13100 ≤ 7293034)
    (kk : ∀ (M' : tM) (ad' : Nat → Nat) (ct' : Nat → Option va_E) (H' : Heap) (locs' : List Loc) (ls' : Array Slot), lI cy em (nb + 1) M' ad' ct' → kW D s0.heap.size ad' ct' H' → va_S (kA s0) s.heap H' locs' → lvP ls' 10 [some (.ref b), some (.ref (ad' 1)), some (.ref (ad' 100)), some (.ref (ad' 90)), some (.ref (ad' 91)), some (.int (nI (7 * nb))), none, none, none, none] → W p l e room_1 s m args below meth c H' locs' (cells + 900) (slots + 13100) Q (F0 m 2221 ls' [])) :
    W p l e room_1 s m args below meth c H locs cells slots Q (F0 m 38 ls []) := by
  have hb9 : nb ≤ 512 := by omega
  refine lv_aload_n hx hb dL_law_38 rfl (hL.at 0 rfl) ?_
  refine lv_iload hx hb dL_law_39 (hL.at 5 rfl) ?_
  refine va_sld hx hb hX hbl hbA hS (vp_in_nI (by omega) (by omega)) dL_law_41 ?_
  rw [nI_clamp (by omega)]
  refine lv_bipush (v := 31) hx hb dL_law_42 (by decide) ?_
  refine lv_iand hx hb dL_law_44 ?_
  obtain ⟨k9, hk9, e9⟩ := and31 (xs (7 * nb))
  have ho := h0.2.2.1
  have hN := h0.2.2.2.1
  have hX9 := h0.2.2.2.2.1
  have hv := h0.inv (Nat.le_succ nb)
  rw [e9]
  rcases (show k9 = 0 ∨ k9 = 1 ∨ k9 = 2 ∨ k9 = 3 ∨ k9 = 4 ∨ k9 = 5 ∨ k9 = 6 ∨ k9 = 7 ∨ k9 = 8 ∨ k9 = 9 ∨ k9 = 10 ∨ k9 = 11 ∨ k9 = 12 ∨ k9 = 13 ∨ k9 = 14 ∨ k9 = 15 ∨ k9 = 16 ∨ k9 = 17 ∨ k9 = 18 ∨ k9 = 19 ∨ k9 = 20 ∨ k9 = 21 ∨ k9 = 22 ∨ k9 = 23 ∨ k9 = 24 ∨ k9 = 25 ∨ k9 = 26 ∨ k9 = 27 ∨ 28 ≤ k9 by omega) with rfl | rfl | rfl | rfl | rfl | rfl | rfl | rfl | rfl | rfl | rfl | rfl | rfl | rfl | rfl | rfl | rfl | rfl | rfl | rfl | rfl | rfl | rfl | rfl | rfl | rfl | rfl | rfl | h28
  · refine lv_tableIn (tgt := 172) hx hb dL_law_45 (by decide) (by decide) rfl (by decide) ?_
    exact L_cloth G hx hb hml hown hts hq hK hI hX hbl hbA hnb hL3 h0 hW hS hL hcl hsl (U_cloth ho hN hX9 hb9 (xs (7 * nb + 1)) (xs (7 * nb + 2)) (xs (7 * nb + 3)) (xs (7 * nb + 4)) (xs (7 * nb + 5)) (xs (7 * nb + 6))) (C_cloth G N3 h0 hb9 (xs (7 * nb + 1)) (xs (7 * nb + 2)) (xs (7 * nb + 3)) (xs (7 * nb + 4)) (xs (7 * nb + 5)) (xs (7 * nb + 6))) (fun adC ctC hlR he => R_cloth G ho hN hX9 hb9 (xs (7 * nb + 1)) (xs (7 * nb + 2)) (xs (7 * nb + 3)) (xs (7 * nb + 4)) (xs (7 * nb + 5)) (xs (7 * nb + 6)) adC ctC hlR he) kk
  · refine lv_tableIn (tgt := 306) hx hb dL_law_45 (by decide) (by decide) rfl (by decide) ?_
    exact L_wash G hx hb hml hown hts hq hK hI hX hbl hbA hnb hL3 h0 hW hS hL hcl hsl (U_wash ho hN hX9 hb9 (xs (7 * nb + 1))) (C_wash G N3 h0 hb9 (xs (7 * nb + 1))) (fun adC ctC hlR he => R_wash G ho hN hX9 hb9 (xs (7 * nb + 1)) adC ctC hlR he) kk
  · refine lv_tableIn (tgt := 383) hx hb dL_law_45 (by decide) (by decide) rfl (by decide) ?_
    exact L_person G hx hb hml hown hts hq hK hI hX hbl hbA hnb hL3 h0 hW hS hL hcl hsl (U_person ho hN hX9 hb9 (xs (7 * nb + 1)) (xs (7 * nb + 2)) (xs (7 * nb + 3)) (xs (7 * nb + 4))) (C_person G N3 h0 hb9 (xs (7 * nb + 1)) (xs (7 * nb + 2)) (xs (7 * nb + 3)) (xs (7 * nb + 4))) (fun adC ctC hlR he => R_person G ho hN hX9 hb9 (xs (7 * nb + 1)) (xs (7 * nb + 2)) (xs (7 * nb + 3)) (xs (7 * nb + 4)) adC ctC hlR he) kk
  · refine lv_tableIn (tgt := 475) hx hb dL_law_45 (by decide) (by decide) rfl (by decide) ?_
    exact L_measure G hx hb hml hown hts hq hK hI hX hbl hbA hnb hL3 h0 hW hS hL hcl hsl (U_measure ho hN hX9 hb9 (xs (7 * nb + 1)) (xs (7 * nb + 2)) (xs (7 * nb + 3))) (C_measure G N3 h0 hb9 (xs (7 * nb + 1)) (xs (7 * nb + 2)) (xs (7 * nb + 3))) (fun adC ctC hlR he => R_measure G ho hN hX9 hb9 (xs (7 * nb + 1)) (xs (7 * nb + 2)) (xs (7 * nb + 3)) adC ctC hlR he) kk
  · refine lv_tableIn (tgt := 555) hx hb dL_law_45 (by decide) (by decide) rfl (by decide) ?_
    exact L_style G hx hb hml hown hts hq hK hI hX hbl hbA hnb hL3 h0 hW hS hL hcl hsl (U_style ho hN hX9 hb9 ) (C_style G N3 h0 hb9 ) (fun adC ctC hlR he => R_style G ho hN hX9 hb9  adC ctC hlR he) kk
  · refine lv_tableIn (tgt := 599) hx hb dL_law_45 (by decide) (by decide) rfl (by decide) ?_
    exact L_piece G hx hb hml hown hts hq hK hI hX hbl hbA hnb hL3 h0 hW hS hL hcl hsl (U_piece ho hN hX9 hb9 (xs (7 * nb + 1)) (xs (7 * nb + 2)) (xs (7 * nb + 3)) (xs (7 * nb + 4)) (xs (7 * nb + 5))) (C_piece G N3 h0 hb9 (xs (7 * nb + 1)) (xs (7 * nb + 2)) (xs (7 * nb + 3)) (xs (7 * nb + 4)) (xs (7 * nb + 5))) (fun adC ctC hlR he => R_piece G ho hN hX9 hb9 (xs (7 * nb + 1)) (xs (7 * nb + 2)) (xs (7 * nb + 3)) (xs (7 * nb + 4)) (xs (7 * nb + 5)) adC ctC hlR he) kk
  · refine lv_tableIn (tgt := 703) hx hb dL_law_45 (by decide) (by decide) rfl (by decide) ?_
    exact L_hand G hx hb hml hown hts hq hK hI hX hbl hbA hnb hL3 h0 hW hS hL hcl hsl (U_hand ho hN hX9 hb9 (xs (7 * nb + 1))) (C_hand G N3 h0 hb9 (xs (7 * nb + 1))) (fun adC ctC hlR he => R_hand G ho hN hX9 hb9 (xs (7 * nb + 1)) adC ctC hlR he) kk
  · refine lv_tableIn (tgt := 759) hx hb dL_law_45 (by decide) (by decide) rfl (by decide) ?_
    exact L_order G hx hb hml hown hts hq hK hI hX hbl hbA hnb hL3 h0 hW hS hL hcl hsl (U_order ho hN hX9 hb9 (xs (7 * nb + 1)) (xs (7 * nb + 2)) (xs (7 * nb + 3))) (C_order G N3 h0 hb9 (xs (7 * nb + 1)) (xs (7 * nb + 2)) (xs (7 * nb + 3))) (fun adC ctC hlR he => R_order G ho hN hX9 hb9 (xs (7 * nb + 1)) (xs (7 * nb + 2)) (xs (7 * nb + 3)) adC ctC hlR he) kk
  · refine lv_tableIn (tgt := 839) hx hb dL_law_45 (by decide) (by decide) rfl (by decide) ?_
    exact L_cut G hx hb hml hown hts hq hK hI hX hbl hbA hnb hL3 h0 hW hS hL hcl hsl (U_cut ho hN hX9 hb9 (xs (7 * nb + 1)) (xs (7 * nb + 2)) (xs (7 * nb + 3))) (C_cut G N3 h0 hb9 (xs (7 * nb + 1)) (xs (7 * nb + 2)) (xs (7 * nb + 3))) (fun adC ctC hlR he => R_cut G ho hN hX9 hb9 (xs (7 * nb + 1)) (xs (7 * nb + 2)) (xs (7 * nb + 3)) adC ctC hlR he) kk
  · refine lv_tableIn (tgt := 940) hx hb dL_law_45 (by decide) (by decide) rfl (by decide) ?_
    exact L_sew G hx hb hml hown hts hq hK hI hX hbl hbA hnb hL3 h0 hW hS hL hcl hsl (U_sew ho hN hX9 hb9 (xs (7 * nb + 1)) (xs (7 * nb + 2))) (C_sew G N3 h0 hb9 (xs (7 * nb + 1)) (xs (7 * nb + 2))) (fun adC ctC hlR he => R_sew G ho hN hX9 hb9 (xs (7 * nb + 1)) (xs (7 * nb + 2)) adC ctC hlR he) kk
  · refine lv_tableIn (tgt := 1029) hx hb dL_law_45 (by decide) (by decide) rfl (by decide) ?_
    exact L_fit G hx hb hml hown hts hq hK hI hX hbl hbA hnb hL3 h0 hW hS hL hcl hsl (U_fit ho hN hX9 hb9 (xs (7 * nb + 1))) (C_fit G N3 h0 hb9 (xs (7 * nb + 1))) (fun adC ctC hlR he => R_fit G ho hN hX9 hb9 (xs (7 * nb + 1)) adC ctC hlR he) kk
  · refine lv_tableIn (tgt := 1085) hx hb dL_law_45 (by decide) (by decide) rfl (by decide) ?_
    exact L_give G hx hb hml hown hts hq hK hI hX hbl hbA hnb hL3 h0 hW hS hL hcl hsl (U_give ho hN hX9 hb9 (xs (7 * nb + 1))) (C_give G N3 h0 hb9 (xs (7 * nb + 1))) (fun adC ctC hlR he => R_give G ho hN hX9 hb9 (xs (7 * nb + 1)) adC ctC hlR he) kk
  · refine lv_tableIn (tgt := 1141) hx hb dL_law_45 (by decide) (by decide) rfl (by decide) ?_
    exact L_pass G hx hb hml hown hts hq hK hI hX hbl hbA hnb hL3 h0 hW hS hL hcl hsl (U_pass ho hN hX9 hb9 (xs (7 * nb + 1))) (C_pass G N3 h0 hb9 (xs (7 * nb + 1))) (fun adC ctC hlR he => R_pass G ho hN hX9 hb9 (xs (7 * nb + 1)) adC ctC hlR he) kk
  · refine lv_tableIn (tgt := 1218) hx hb dL_law_45 (by decide) (by decide) rfl (by decide) ?_
    exact L_shut G hx hb hml hown hts hq hK hI hX hbl hbA hnb hL3 h0 hW hS hL hcl hsl (U_shut ho hN hX9 hb9 (xs (7 * nb + 1))) (C_shut G h0 hb9 (xs (7 * nb + 1))) (fun adC ctC hlR he => R_shut G ho hN hX9 hb9 (xs (7 * nb + 1)) adC ctC hlR he) kk
  · refine lv_tableIn (tgt := 1259) hx hb dL_law_45 (by decide) (by decide) rfl (by decide) ?_
    exact L_bell G hx hb hml hown hts hq hK hI hX hbl hbA hnb hL3 h0 hW hS hL hcl hsl (U_bell ho hN hX9 hb9 ) (C_bell G h0 hb9 ) (fun adC ctC hlR he => R_bell G ho hN hX9 hb9  adC ctC hlR he) kk
  · refine lv_tableIn (tgt := 1272) hx hb dL_law_45 (by decide) (by decide) rfl (by decide) ?_
    exact L_ofCloth G hx hb hml hown hts hq hK hI hX hbl hbA hnb hL3 h0 hW hS hL hcl hsl (U_ofCloth hv (xs (7 * nb + 1)) (xs (7 * nb + 2))) (C_ofCloth G N3 h0 hb9 (xs (7 * nb + 1)) (xs (7 * nb + 2))) (fun adC ctC hlR he => R_ofCloth G ho hN hX9 hb9 (xs (7 * nb + 1)) (xs (7 * nb + 2)) adC ctC hlR he) kk
  · refine lv_tableIn (tgt := 1361) hx hb dL_law_45 (by decide) (by decide) rfl (by decide) ?_
    exact L_size G hx hb hml hown hts hq hK hI hX hbl hbA hnb hL3 h0 hW hS hL hcl hsl (U_size hv (xs (7 * nb + 1)) (xs (7 * nb + 2)) (xs (7 * nb + 3)) (xs (7 * nb + 4))) (C_size G N3 h0 hb9 (xs (7 * nb + 1)) (xs (7 * nb + 2)) (xs (7 * nb + 3)) (xs (7 * nb + 4))) (fun adC ctC hlR he => R_size G ho hN hX9 hb9 (xs (7 * nb + 1)) (xs (7 * nb + 2)) (xs (7 * nb + 3)) (xs (7 * nb + 4)) adC ctC hlR he) kk
  · refine lv_tableIn (tgt := 1490) hx hb dL_law_45 (by decide) (by decide) rfl (by decide) ?_
    exact L_ofOrder G hx hb hml hown hts hq hK hI hX hbl hbA hnb hL3 h0 hW hS hL hcl hsl (U_ofOrder hv (xs (7 * nb + 1)) (xs (7 * nb + 2))) (C_ofOrder G N3 h0 hb9 (xs (7 * nb + 1)) (xs (7 * nb + 2))) (fun adC ctC hlR he => R_ofOrder G ho hN hX9 hb9 (xs (7 * nb + 1)) (xs (7 * nb + 2)) adC ctC hlR he) kk
  · refine lv_tableIn (tgt := 1558) hx hb dL_law_45 (by decide) (by decide) rfl (by decide) ?_
    exact L_tight G hx hb hml hown hts hq hK hI hX hbl hbA hnb hL3 h0 hW hS hL hcl hsl (U_tight hv (xs (7 * nb + 1)) (xs (7 * nb + 2))) (C_tight G N3 h0 hb9 (xs (7 * nb + 1)) (xs (7 * nb + 2))) (fun adC ctC hlR he => R_tight G ho hN hX9 hb9 (xs (7 * nb + 1)) (xs (7 * nb + 2)) adC ctC hlR he) kk
  · refine lv_tableIn (tgt := 1663) hx hb dL_law_45 (by decide) (by decide) rfl (by decide) ?_
    exact L_ready G hx hb hml hown hts hq hK hI hX hbl hbA hnb hL3 h0 hW hS hL hcl hsl (U_ready hv (xs (7 * nb + 1))) (C_ready G N3 h0 hb9 (xs (7 * nb + 1))) (fun adC ctC hlR he => R_ready G ho hN hX9 hb9 (xs (7 * nb + 1)) adC ctC hlR he) kk
  · refine lv_tableIn (tgt := 1740) hx hb dL_law_45 (by decide) (by decide) rfl (by decide) ?_
    exact L_free G hx hb hml hown hts hq hK hI hX hbl hbA hnb hL3 h0 hW hS hL hcl hsl (U_free hv (xs (7 * nb + 1))) (C_free G N3 h0 hb9 (xs (7 * nb + 1))) (fun adC ctC hlR he => R_free G ho hN hX9 hb9 (xs (7 * nb + 1)) adC ctC hlR he) kk
  · refine lv_tableIn (tgt := 1817) hx hb dL_law_45 (by decide) (by decide) rfl (by decide) ?_
    exact L_clock G hx hb hml hown hts hq hK hI hX hbl hbA hnb hL3 h0 hW hS hL hcl hsl (U_clock ho hN hX9 hb9 ) (C_clock G h0 hb9 ) (fun adC ctC hlR he => R_clock G ho hN hX9 hb9  adC ctC hlR he) kk
  · refine lv_tableIn (tgt := 1858) hx hb dL_law_45 (by decide) (by decide) rfl (by decide) ?_
    exact L_many G hx hb hml hown hts hq hK hI hX hbl hbA hnb hL3 h0 hW hS hL hcl hsl (U_many hv (xs (7 * nb + 1))) (C_many G N3 h0 hb9 (xs (7 * nb + 1))) (fun adC ctC hlR he => R_many G ho hN hX9 hb9 (xs (7 * nb + 1)) adC ctC hlR he) kk
  · refine lv_tableIn (tgt := 1914) hx hb dL_law_45 (by decide) (by decide) rfl (by decide) ?_
    exact L_lay G hx hb hml hown hts hq hK hI hX hbl hbA hnb hL3 h0 hW hS hL hcl hsl (U_lay hv (xs (7 * nb + 1)) (xs (7 * nb + 2)) (xs (7 * nb + 3)) (xs (7 * nb + 4))) (C_lay G N3 h0 hb9 (xs (7 * nb + 1)) (xs (7 * nb + 2)) (xs (7 * nb + 3)) (xs (7 * nb + 4))) (fun adC ctC hlR he => R_lay G ho hN hX9 hb9 (xs (7 * nb + 1)) (xs (7 * nb + 2)) (xs (7 * nb + 3)) (xs (7 * nb + 4)) adC ctC hlR he) kk
  · refine lv_tableIn (tgt := 2027) hx hb dL_law_45 (by decide) (by decide) rfl (by decide) ?_
    exact L_best G hx hb hml hown hts hq hK hI hX hbl hbA hnb hL3 h0 hW hS hL hcl hsl (U_best hv (xs (7 * nb + 1))) (C_best G N3 h0 hb9 (xs (7 * nb + 1))) (fun adC ctC hlR he => R_best G ho hN hX9 hb9 (xs (7 * nb + 1)) adC ctC hlR he) kk
  · refine lv_tableIn (tgt := 2083) hx hb dL_law_45 (by decide) (by decide) rfl (by decide) ?_
    exact L_mate G hx hb hml hown hts hq hK hI hX hbl hbA hnb hL3 h0 hW hS hL hcl hsl (U_mate hv (xs (7 * nb + 1)) (xs (7 * nb + 2))) (C_mate G N3 h0 hb9 (xs (7 * nb + 1)) (xs (7 * nb + 2))) (fun adC ctC hlR he => R_mate G ho hN hX9 hb9 (xs (7 * nb + 1)) (xs (7 * nb + 2)) adC ctC hlR he) kk
  · refine lv_tableIn (tgt := 2151) hx hb dL_law_45 (by decide) (by decide) rfl (by decide) ?_
    exact L_soonest G hx hb hml hown hts hq hK hI hX hbl hbA hnb hL3 h0 hW hS hL hcl hsl (U_soonest hv (xs (7 * nb + 1))) (C_soonest G N3 h0 hb9 (xs (7 * nb + 1))) (fun adC ctC hlR he => R_soonest G ho hN hX9 hb9 (xs (7 * nb + 1)) adC ctC hlR he) kk
  · refine lv_tableIn (tgt := 2207) hx hb dL_law_45 (by decide) (by decide) rfl (by decide) ?_
    exact L_digest G hx hb hml hown hts hq hK hI hX hbl hbA hnb hL3 h0 hW hS hL hcl hsl (U_digest ho hN hX9 hb9 ) (C_digest G h0 hb9 ) (fun adC ctC hlR he => R_digest G ho hN hX9 hb9  adC ctC hlR he) kk
  · refine lv_tableOut (tgt := 2221) hx hb dL_law_45 (Or.inr (by rw [show (nI k9).toInt = (k9 : Int) from Int32.toInt_ofNat_of_lt (by omega)]; omega)) (by decide) ?_
    exact W.widen (by omega) (by omega) (kk M ad ct H locs ls ⟨h0.1, h0.2.1, hv.1, hv.2.1, hv.2.2, h0.2.2.2.2.2⟩ hW hS hL)
set_option maxHeartbeats 4000000 in
set_option maxRecDepth 100000 in
theorem law_loop {l : Launch} {D : va_G} {cy : Nat → ClassId} {sad : Nat → Nat} {em : Nat} {s0 : State} {a0 : Array Value} (G : kG kSTR l D cy sad em s0 a0) (N3 : kN3 s0) {p : Program} {e : Env} {s : State} {m : MethodId} {args : Array Value} {below : List Frame} {meth : Method} {c : Code} {Q : State → Prop} {b L : Nat} {xs : Nat → Int32}
    (hx : p.tables.exec = Jvm.exec) (hb : c.code = cL_law) (hml : c.maxLocals = 10) (hown : s.vm.findClass "TailorBenchLaw" = some m.cls) (hts : ∀ w ∈ gT, w.before args s = true) (hq : ∀ w ∈ lw_tbl, kgood w = true → w.before args s = true) (hK : va_K D vwCl (ktys cy) s) (hI : kI s0 s) (hX : va_X b L xs s s.heap) (hbl : b < s.heap.size) (hbA : ¬ kA s0 b) (hL3 : L ≤ 3584)
    (kk : ∀ (H : Heap) (locs : List Loc) (cells slots : Nat) (ls : Array Slot), va_S (kA s0) s.heap H locs → cells ≤ 601024 → slots ≤ 7293034 → W p l e room_1 s m args below meth c H locs cells slots Q (F0 m 2227 ls [])) :
    ∀ (f nb : Nat) (M : tM) (ad : Nat → Nat) (ct : Nat → Option va_E) (H : Heap) (locs : List Loc) (cells slots : Nat) (ls : Array Slot), nb + f = 512 → lI cy em nb M ad ct → kW D s0.heap.size ad ct H → va_S (kA s0) s.heap H locs → lvP ls 10 [some (.ref b), some (.ref (ad 1)), some (.ref (ad 100)), some (.ref (ad 90)), some (.ref (ad 91)), some (.int (nI (7 * nb))), none, none, none, none] → cells + 900 * f ≤ 601024 → slots + 13100 * f ≤ 7293034 → W p l e room_1 s m args below meth c H locs cells slots Q (F0 m 28 ls []) := by
  intro f
  induction f with
  | zero =>
    intro nb M ad ct H locs cells slots ls hf h0 hW hS hL hcl hsl
    refine lv_iload hx hb dL_law_28 (hL.at 5 rfl) ?_
    refine lv_aload_n hx hb dL_law_30 rfl (hL.at 0 rfl) ?_
    refine va_slen hx hb hX hbl hbA hS dL_law_31 ?_
    refine lv_bipush (v := 7) hx hb dL_law_32 (by decide) ?_
    refine lv_isub hx hb dL_law_34 ?_
    refine lv_icmp_gt (tgt := 2227) hx hb dL_law_35 (by decide) (fun _ => kk H locs cells slots ls hS (by omega) (by omega)) (fun z => absurd ((gt7 (by omega) hL3).mpr (by omega)) z)
  | succ f ih =>
    intro nb M ad ct H locs cells slots ls hf h0 hW hS hL hcl hsl
    refine lv_iload hx hb dL_law_28 (hL.at 5 rfl) ?_
    refine lv_aload_n hx hb dL_law_30 rfl (hL.at 0 rfl) ?_
    refine va_slen hx hb hX hbl hbA hS dL_law_31 ?_
    refine lv_bipush (v := 7) hx hb dL_law_32 (by decide) ?_
    refine lv_isub hx hb dL_law_34 ?_
    refine lv_icmp_gt (tgt := 2227) hx hb dL_law_35 (by decide) (fun _ => kk H locs cells slots ls hS (by omega) (by omega)) (fun z => ?_)
    have hnb : 7 * nb + 7 ≤ L := Nat.le_of_not_lt (fun q => z ((gt7 (by omega) hL3).mpr q))
    have hc1 : cells + 900 ≤ 601024 := by omega
    have hs1 : slots + 13100 ≤ 7293034 := by omega
    refine law_step G hx hb hml hown hts hq hK hI hX hbl hbA N3 hnb hL3 h0 hW hS hL hc1 hs1 (fun M' ad' ct' H' locs' ls' h0' hW' hS' hL' => ?_)
    refine k_iinc hx hb hL' (i := 5) rfl (by decide) dL_law_2221 (fun ls2 hL2 => ?_)
    refine lv_goto (tgt := 28) hx hb dL_law_2224 (by decide) ?_
    refine ih (nb + 1) M' ad' ct' H' locs' _ _ ls2 (by omega) h0' hW' hS' ?_ (by omega) (by omega)
    rw [show nI (7 * nb) + Int32.ofInt 7 = nI (7 * (nb + 1)) from nI_add ..] at hL2
    exact hL2
