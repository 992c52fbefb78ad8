/-! the law's entry: both shops made, the two arrays -/
theorem fF_z : fF zM = fun _ => 0 := by
  funext i
  exact if_neg (Nat.not_lt_zero i)
theorem fP_z : fP zM = fun _ => 0 := by
  funext i
  exact if_neg (Nat.not_lt_zero i)
theorem okM_z : okM zM := ⟨⟨Nat.zero_le _, Nat.zero_le _, Nat.zero_le _, Nat.zero_le _, Nat.zero_le _⟩, fun i hi => absurd hi (Nat.not_lt_zero i), fun i hi => absurd hi (Nat.not_lt_zero i), fun i hi => absurd hi (Nat.not_lt_zero i), fun i hi => absurd hi (Nat.not_lt_zero i), fun i hi => absurd hi (Nat.not_lt_zero i)⟩
theorem okN_z : okN 0 zM := ⟨fun i hi => absurd hi (Nat.not_lt_zero i), dP_c0.wk (by omega) (by omega), fun i hi => absurd hi (Nat.not_lt_zero i), fun i hi => absurd hi (Nat.not_lt_zero i)⟩
theorem okX_z : okX zM := ⟨Or.inl rfl, fun i hi => absurd hi (Nat.not_lt_zero i), fun i hi => absurd hi (Nat.not_lt_zero i)⟩
theorem rLst_z {cy : Nat → ClassId} {ad : Nat → Nat} {ct : Nat → Option va_E} {em kl kd base : Nat} (e0 : ad 0 = em) (h : ct kl = some (oLs em 0)) (hf : ct kd = none) : rLst cy ad ct kl kd base 0 :=
  ⟨by rw [if_pos rfl, e0]; exact h, fun z => absurd z (by decide), fun _ => hf⟩
theorem lR_z {cy : Nat → ClassId} {ad : Nat → Nat} {ct : Nat → Option va_E} {em : Nat} (e0 : ad 0 = em) (c0 : ct 0 = none) (g100 : ct 100 = some (.inr (13, [.int 0, .ref (ad 101), .ref (ad 102), .ref (ad 103), .ref (ad 104), .ref (ad 105), .ref (ad 106), .int 0, .double 0, .int 0, .int 0, .int 0, .long 0]))) (g101 : ct 101 = some (oLs em 0)) (g102 : ct 102 = some (oLs em 0)) (g103 : ct 103 = some (oLs em 0)) (g104 : ct 104 = some (oLs em 0)) (g105 : ct 105 = some (.inl (cy 0, 3, aD (fun _ => 0)))) (g106 : ct 106 = some (.inl (cy 2, 3, aF (fun _ => 0)))) (hz : ∀ j, 107 ≤ j → True → ct j = none) : lR cy ad ct zM := by
  refine ⟨⟨0, 0, g100⟩, ⟨⟨rLst_z e0 g101 (hz _ (by omega) trivial), rLst_z e0 g102 (hz _ (by omega) trivial), rLst_z e0 g103 (hz _ (by omega) trivial), rLst_z e0 g104 (hz _ (by omega) trivial)⟩, ⟨by rw [fF_z]; exact g105, by rw [fP_z]; exact g106⟩, fun i hi => absurd hi (Nat.not_lt_zero i), fun i hi => absurd hi (Nat.not_lt_zero i), fun i hi => absurd hi (Nat.not_lt_zero i), fun i hi => absurd hi (Nat.not_lt_zero i), fun i hi => absurd hi (Nat.not_lt_zero i), fun i hi => absurd hi (Nat.not_lt_zero i), c0⟩, ⟨fun i _ _ => hz _ (by omega) trivial, fun i _ _ => hz _ (by omega) trivial, fun i _ _ => ⟨hz _ (by omega) trivial, hz _ (by omega) trivial⟩, fun i _ j _ _ => hz _ (by omega) trivial, fun i _ _ => ⟨hz _ (by omega) trivial, hz _ (by omega) trivial⟩, fun i _ _ => hz _ (by omega) trivial, fun j hj => hz _ (by omega) trivial⟩, fun j hj => hz _ (by omega) trivial⟩
set_option maxHeartbeats 4000000 in
set_option maxRecDepth 100000 in
theorem law_entry {l : Launch} {D : va_G} {cy : Nat → ClassId} {sad : Nat → Nat} {em : Nat} {s0 : State} {a0 : Array Value} (G : kG kSTR l D cy sad em s0 a0) {p : Program} {e : Env} {s : State} {m : MethodId} {args : Array Value} {below : List Frame} {meth : Method} {c : Code} {H : Heap} {locs : List Loc} {Q : State → Prop} {ls : Array Slot} {b : Nat} {ad : Nat → Nat} {ct : Nat → Option va_E}
    (hx : p.tables.exec = Jvm.exec) (hb : c.code = cL_law) (hml : c.maxLocals = 10) (hown : s.vm.findClass "TailorBenchLaw" = some m.cls) (hts : ∀ w ∈ gT, w.before args s = true) (hq : ∀ w ∈ lw_tbl, kgood w = true → w.before args s = true) (hK : va_K D vwCl (ktys cy) s) (hI : kI s0 s) (h00 : ct 0 = none) (hct : ∀ k, k ≠ 0 → ct k = none) (hem : ad 0 = em) (hW : kW D s0.heap.size ad ct H) (hS : va_S (kA s0) s.heap H locs) (hL : lvP ls 10 [some (.ref b), none, none, none, none, none, none, none, none, none])
    (kk : ∀ (ad' : Nat → Nat) (ct' : Nat → Option va_E) (H' : Heap) (locs' : List Loc) (ls' : Array Slot), lI cy em 0 zM ad' ct' → kW D s0.heap.size ad' ct' H' → va_S (kA s0) s.heap H' locs' → 0 + 1 + 10 + 1 + 6 + 1 + 1 ≤ 20 → 0 + 15 + 195 + 13 + 18 + 1 + 1 ≤ 243 → lvP ls' 10 [some (.ref b), some (.ref (ad' 1)), some (.ref (ad' 100)), some (.ref (ad' 90)), some (.ref (ad' 91)), some (.int (nI (7 * 0))), none, none, none, none] → W p l e room_1 s m args below meth c H' locs' (0 + 1 + 10 + 1 + 6 + 1 + 1) (0 + 15 + 195 + 13 + 18 + 1 + 1) Q (F0 m 28 ls' [])) :
    W p l e room_1 s m args below meth c H locs 0 0 Q (F0 m 0 ls []) := by
  refine k_new (ci := 9) (fs := [.null, .null, .null, .null, .null, .null, .int 0, .int 0, .int 0, .int 0, .int 0, .double 0, .int 0, .int 0, .int 0]) (C := RX7) (T := TX7) (N := 15) hx hb hts w_RX7 tyX7 tyX7_ok hown (hq _ q86 rfl) (hq _ q87 rfl) (hq _ q55 rfl) hK hW hS hI.2.1 rfl 1 (hct 1 (by omega)) (fun j hj => by rcases (show j = 0 ∨ j = 1 ∨ j = 2 ∨ j = 3 ∨ j = 4 ∨ j = 5 ∨ j = 6 ∨ j = 7 ∨ j = 8 ∨ j = 9 ∨ j = 10 ∨ j = 11 ∨ j = 12 ∨ j = 13 ∨ j = 14 by omega) with rfl | rfl | rfl | rfl | rfl | rfl | rfl | rfl | rfl | rfl | rfl | rfl | rfl | rfl | rfl <;> rfl) (by show _ ≤ (601024 : Nat); omega) (by show _ ≤ (7293034 : Nat); omega) dL_law_0 (fun q0 H hW hS => ?_)
  obtain ⟨adA, hd0⟩ : ∃ z, z = upA ad 1 q0 := ⟨_, rfl⟩
  rw [← hd0] at hW ⊢
  have hdk0 : ∀ j, j ≠ 1 → adA j = ad j := fun j hj => by rw [hd0]; exact upA_n hj
  refine lv_dup hx hb dL_law_3 rfl ?_
  refine k_callI hx hb hml hown hts hI hS hW hL.1 (c_iShop G up_s (fun k a b => (up_n (by omega)).trans (hct k (by omega)))) (gT_in q90 rfl) (hq _ q88 rfl) (hq _ q55 rfl) (hq _ q89 rfl) rfl (show kpar yX7_init 0 from ⟨by decide, by decide, by decide +kernel⟩) ⟨by decide, by decide⟩ (by show _ ≤ (601024 : Nat); omega) (by show _ ≤ (7293034 : Nat); omega) rfl (by first | decide | exact Nat.le_of_ble_eq_true rfl) dL_law_4 (fun v ad4 ct4 H locs hp hW hS => ?_)
  obtain ⟨rfl, hda, hRC, hRT, hr4⟩ := hp
  rw [← hda 1 (by omega)]
  refine k_ast_n hx hb hL (i := 1) rfl (by decide) dL_law_7 (fun ls hL => ?_)
  replace hL := hL.nrm (l' := [some _, some _, none, none, none, none, none, none, none, none]) rfl
  refine k_new (ci := 13) (fs := [.int 0, .null, .null, .null, .null, .null, .null, .int 0, .double 0, .int 0, .int 0, .int 0, .long 0]) (C := RX11) (T := TX11) (N := 13) hx hb hts w_RX11 tyX11 tyX11_ok hown (hq _ q836 rfl) (hq _ q837 rfl) (hq _ q57 rfl) hK hW hS hI.2.1 rfl 100 ((hr4 100 (by omega)).trans ((up_n (by omega)).trans (hct 100 (by omega)))) (fun j hj => by rcases (show j = 0 ∨ j = 1 ∨ j = 2 ∨ j = 3 ∨ j = 4 ∨ j = 5 ∨ j = 6 ∨ j = 7 ∨ j = 8 ∨ j = 9 ∨ j = 10 ∨ j = 11 ∨ j = 12 by omega) with rfl | rfl | rfl | rfl | rfl | rfl | rfl | rfl | rfl | rfl | rfl | rfl | rfl <;> rfl) (by show _ ≤ (601024 : Nat); omega) (by show _ ≤ (7293034 : Nat); omega) dL_law_8 (fun q8 H hW hS => ?_)
  obtain ⟨adB, hd8⟩ : ∃ z, z = upA ad4 100 q8 := ⟨_, rfl⟩
  rw [← hd8] at hW ⊢
  have hdk8 : ∀ j, j ≠ 100 → adB j = ad4 j := fun j hj => by rw [hd8]; exact upA_n hj
  rw [← hdk8 1 (by omega)] at hL
  refine lv_dup hx hb dL_law_11 rfl ?_
  refine k_callI hx hb hml hown hts hI hS hW hL.1 (r_minit G ((hdk8 0 (by omega)).trans ((hda 0 (by omega)).trans ((hdk0 0 (by omega)).trans hem))) up_s (fun j a b => (up_n (by omega)).trans ((hr4 j (by omega)).trans ((up_n (by omega)).trans (hct j (by omega)))))) (gT_in q840 rfl) (hq _ q838 rfl) (hq _ q57 rfl) (hq _ q839 rfl) rfl (show kpar yX11_init 0 from ⟨by decide, by decide, by decide +kernel⟩) ⟨by decide, by decide⟩ (by show _ ≤ (601024 : Nat); omega) (by show _ ≤ (7293034 : Nat); omega) rfl (by first | decide | exact Nat.le_of_ble_eq_true rfl) dL_law_12 (fun v ad12 ct12 H locs hp hW hS => ?_)
  obtain ⟨rfl, hdb, g100, ⟨g101, g102, g103, g104⟩, g105, g106, hr12⟩ := hp
  rw [← hdb 1 (by omega)] at hL
  rw [← hdb 100 (by omega)]
  refine k_ast_n hx hb hL (i := 2) rfl (by decide) dL_law_15 (fun ls hL => ?_)
  replace hL := hL.nrm (l' := [some _, some _, some _, none, none, none, none, none, none, none]) rfl
  refine lv_iconst (v := 1) hx hb dL_law_16 (by decide) ?_
  refine k_newarr (atype := .long) hx hb (hq _ q1412 rfl) 3 hK rfl (fun C h => by cases h) hW hS hI.2.1 90 ((hr12 90 (by omega)).trans ((up_n (by omega)).trans ((hr4 90 (by omega)).trans ((up_n (by omega)).trans (hct 90 (by omega)))))) (N := 1) (a0 := (1, aL (fun _ => 0))) (fun _ => rfl) rfl (by omega) (by show _ * 8 ≤ (536870912 : Nat); omega) (by show _ ≤ (601024 : Nat); omega) (by show _ ≤ (7293034 : Nat); omega) dL_law_17 (fun q17 H hW hS => ?_)
  obtain ⟨adC, hd17⟩ : ∃ z, z = upA ad12 90 q17 := ⟨_, rfl⟩
  rw [← hd17] at hW ⊢
  have hdk17 : ∀ j, j ≠ 90 → adC j = ad12 j := fun j hj => by rw [hd17]; exact upA_n hj
  rw [← hdk17 1 (by omega)] at hL
  rw [← hdk17 100 (by omega)] at hL
  refine k_ast_n hx hb hL (i := 3) rfl (by decide) dL_law_19 (fun ls hL => ?_)
  replace hL := hL.nrm (l' := [some _, some _, some _, some _, none, none, none, none, none, none]) rfl
  refine lv_iconst (v := 1) hx hb dL_law_20 (by decide) ?_
  refine k_newarr (atype := .double) hx hb (hq _ q148 rfl) 0 hK rfl (fun C h => by cases h) hW hS hI.2.1 91 ((up_n (by omega)).trans ((hr12 91 (by omega)).trans ((up_n (by omega)).trans ((hr4 91 (by omega)).trans ((up_n (by omega)).trans (hct 91 (by omega))))))) (N := 1) (a0 := (1, aD (fun _ => 0))) (fun _ => rfl) rfl (by omega) (by show _ * 8 ≤ (536870912 : Nat); omega) (by show _ ≤ (601024 : Nat); omega) (by show _ ≤ (7293034 : Nat); omega) dL_law_21 (fun q21 H hW hS => ?_)
  obtain ⟨adE, hd21⟩ : ∃ z, z = upA adC 91 q21 := ⟨_, rfl⟩
  rw [← hd21] at hW ⊢
  have hdk21 : ∀ j, j ≠ 91 → adE j = adC j := fun j hj => by rw [hd21]; exact upA_n hj
  rw [← hdk21 1 (by omega)] at hL
  rw [← hdk21 100 (by omega)] at hL
  rw [← hdk21 90 (by omega)] at hL
  refine k_ast hx hb hL (i := 4) (by decide) dL_law_23 (fun ls hL => ?_)
  replace hL := hL.nrm (l' := [some _, some _, some _, some _, some _, none, none, none, none, none]) rfl
  refine lv_iconst (v := 0) hx hb dL_law_25 (by decide) ?_
  refine k_ist hx hb hL (i := 5) (by decide) dL_law_26 (fun ls hL => ?_)
  replace hL := hL.nrm (l' := [some _, some _, some _, some _, some _, some _, none, none, none, none]) rfl
  have cq : ∀ j, j ≠ 1 → j ≠ 100 → (j < 1 ∨ 11 < j) → (j < 100 ∨ 106 < j) → j ≠ 0 → ct12 j = none := fun j a1 a2 a3 a4 a5 => (hr12 j a4).trans ((up_n a2).trans ((hr4 j a3).trans ((up_n a1).trans (hct j a5))))
  have cq4 : ∀ j, j ≠ 1 → (j < 1 ∨ 11 < j) → j ≠ 0 → ct4 j = none := fun j a1 a3 a5 => (hr4 j a3).trans ((up_n a1).trans (hct j a5))
  have c0 : ct12 0 = none := (hr12 0 (by omega)).trans ((up_n (by omega)).trans ((hr4 0 (by omega)).trans ((up_n (by omega)).trans h00)))
  have e0 : ad12 0 = em := (hdb 0 (by omega)).trans ((hdk8 0 (by omega)).trans ((hda 0 (by omega)).trans ((hdk0 0 (by omega)).trans hem)))
  have hC4 : lC cy ad4 ct4 zM := ⟨hRC, ⟨fun i _ _ => cq4 _ (by omega) (by omega) (by omega), fun i _ _ => cq4 _ (by omega) (by omega) (by omega), fun i _ _ => ⟨cq4 _ (by omega) (by omega) (by omega), cq4 _ (by omega) (by omega) (by omega)⟩, fun i _ j _ _ => cq4 _ (by omega) (by omega) (by omega), fun i _ _ => cq4 _ (by omega) (by omega) (by omega), fun i _ _ => ⟨cq4 _ (by omega) (by omega) (by omega), cq4 _ (by omega) (by omega) (by omega)⟩⟩, _, _, _, _, _, hRT⟩
  have hR12 : lR cy ad12 ct12 zM := lR_z e0 c0 g100 g101 g102 g103 g104 g105 g106 (fun j h1 h2 => cq j (by omega) (by omega) (by omega) (by omega) (by omega))
  refine kk adE _ H locs ls ⟨hC4.mv okM_z (fun j hj => ⟨(hdk21 j (by omega)).trans ((hdk17 j (by omega)).trans ((hdb j (by omega)).trans (hdk8 j (by omega)))), (up_n (by omega)).trans ((up_n (by omega)).trans ((hr12 j (by omega)).trans (up_n (by omega))))⟩), hR12.mv okM_z (fun j hj => ⟨(hdk21 j (by omega)).trans (hdk17 j (by omega)), (up_n (by omega)).trans (up_n (by omega))⟩), okM_z, okN_z, okX_z, (hdk21 0 (by omega)).trans ((hdk17 0 (by omega)).trans e0), ⟨_, (up_n (by omega)).trans up_s⟩, _, up_s⟩ hW hS (by omega) (by omega) ?_
  exact hL
