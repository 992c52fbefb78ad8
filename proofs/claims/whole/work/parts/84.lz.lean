/-! the law: the four calls without a wrapper -/
section KITZ
def dCx {α : Type} (mk : α → Value) (cy : Nat → ClassId) (ad : Nat → Nat) (M : tM) (sp : α → tM → Prop) : kPT := fun v ad' ct' => ∃ (a : α) (MC : tM) (fo : Nat → Int64) (fd : Nat → UInt64), v = some (mk a) ∧ lC cy ad' ct' MC ∧ lR cy ad' ct' M ∧ kSm ad ad' ∧ kOu cy ct' fo fd ∧ sp a MC
def dRx {α : Type} (mk : α → Value) (cy : Nat → ClassId) (ad : Nat → Nat) (ct : Nat → Option va_E) (sp : α → tM → Prop) : kPT := fun v ad' ct' => ∃ (b : α) (MR : tM), v = some (mk b) ∧ lR cy ad' ct' MR ∧ kFl ad ad' ct ct' ∧ ad' 100 = ad 100 ∧ sp b MR
def spOk2 {α : Type} (nb : Nat) (sp : α → tM → Prop) : Prop := (∀ a M1 b M2, sp a M1 → sp b M2 → a = b ∧ M1 = M2) ∧ ∀ a M1, sp a M1 → okM M1 ∧ okN (nb + 1) M1 ∧ okX M1
end KITZ

set_option maxHeartbeats 4000000 in
set_option maxRecDepth 100000 in
theorem L_shut {l : Launch} {D : va_G} {cy : Nat → ClassId} {sad : Nat → Nat} {em : Nat} {s0 : State} {a0 : Array Value} (G : kG kSTR l D cy sad em s0 a0) {p : Program} {e : Env} {s : State} {m : MethodId} {args : Array Value} {below : List Frame} {meth : Method} {c : Code} {H : Heap} {locs : List Loc} {cells slots : Nat} {Q : State → Prop} {ls : Array Slot} {b L : Nat} {xs : Nat → Int32} {nb : Nat} {M : tM} {ad : Nat → Nat} {ct : Nat → Option va_E}
    (hx : p.tables.exec = Jvm.exec) (hb : c.code = cL_law) (hml : c.maxLocals = 10) (hown : s.vm.findClass "TailorBenchLaw" = some m.cls) (hts : ∀ w ∈ gT, w.before args s = true) (hq : ∀ w ∈ lw_tbl, kgood w = true → w.before args s = true) (hK : va_K D vwCl (ktys cy) s) (hI : kI s0 s) (hX : va_X b L xs s s.heap) (hbl : b < s.heap.size) (hbA : ¬ kA s0 b) (hnb : 7 * nb + 7 ≤ L) (hL3 : L ≤ 3584) (h0 : lI cy em nb M ad ct) (hW : kW D s0.heap.size ad ct H) (hS : va_S (kA s0) s.heap H locs) (hL : lvP ls 10 [some (.ref b), some (.ref (ad 1)), some (.ref (ad 100)), some (.ref (ad 90)), some (.ref (ad 91)), some (.int (nI (7 * nb))), none, none, none, none]) (hcl : cells + 900 ≤ 601024) (hsl : slots + 13100 ≤ 7293034)
    {sp : Int32 → tM → Prop} (hok : spOk2 nb sp)
    (hC : KM l yX7_shut [.code yX7_shut prog_1_method_15_code 3 (some .boolean)] 0 0 0 0 [.ref (ad 1), .int (fBo (xs (7 * nb + 1)))] D s0 ad ct (dCx Value.int cy ad M sp))
    (hR : ∀ (adC : Nat → Nat) (ctC : Nat → Option va_E), lR cy adC ctC M → adC 0 = em → KM l yX11_shut [.code yX11_shut prog_10_method_36_code 3 (some .boolean)] 0 0 0 0 [.ref (adC 100), .int (fBo (xs (7 * nb + 1)))] D s0 adC ctC (dRx Value.int cy adC ctC sp))
    (kk : ∀ (M' : tM) (ad' : Nat → Nat) (ct' : Nat → Option va_E) (H' : Heap) (locs' : List Loc) (ls' : Array Slot), lI cy em (nb + 1) M' ad' ct' → kW D s0.heap.size ad' ct' H' → va_S (kA s0) s.heap H' locs' → lvP ls' 10 [some (.ref b), some (.ref (ad' 1)), some (.ref (ad' 100)), some (.ref (ad' 90)), some (.ref (ad' 91)), some (.int (nI (7 * nb))), none, none, none, none] → W p l e room_1 s m args below meth c H' locs' (cells + 900) (slots + 13100) Q (F0 m 2221 ls' [])) :
    W p l e room_1 s m args below meth c H locs cells slots Q (F0 m 1218 ls []) := by
  refine lv_aload_n hx hb dL_law_1218 rfl (hL.at 1 rfl) ?_
  refine lv_aload_n hx hb dL_law_1219 rfl (hL.at 0 rfl) ?_
  refine lv_iload hx hb dL_law_1220 (hL.at 5 rfl) ?_
  refine lv_iconst (v := 1) hx hb dL_law_1222 (by decide) ?_
  refine lv_iadd hx hb dL_law_1223 ?_
  refine k_sld hx hb hX hbl hbA hS (k := 1) rfl (by omega) hL3 dL_law_1224 ?_
  refine k_bool hx hb dL_law_1225 dL_law_1228 dL_law_1229 dL_law_1232 ?_
  refine k_callV (q := (RX7, TX7, 15)) hx hb hml hown hts hK hI hS hW hL.1 (h0.1.1.1) rfl (hC) (m5 (gT_in q195 rfl) (gT_in q196 rfl) (gT_in q197 rfl) (gT_in q55 rfl) (gT_in q198 rfl)) rfl (show kpar yX7_shut 1 from ⟨by decide, by decide, by decide +kernel⟩) (by first | exact ⟨by decide, by decide⟩ | exact ⟨Nat.le_of_ble_eq_true rfl, Nat.le_of_ble_eq_true rfl⟩) (by show _ ≤ 601024; omega) (by show _ ≤ 7293034; omega) rfl (Nat.le_of_ble_eq_true rfl) dL_law_1233 (fun v adC ctC H locs hp hW hS => ?_)
  obtain ⟨a, MC, fo, fd, rfl, hlC, hlR, ⟨e0, e1, e100, e90, e91⟩, hou, hsp⟩ := hp
  rw [← e1, ← e100, ← e90, ← e91] at hL
  obtain ⟨⟨th0, sm0, hm100⟩, -⟩ := id hlR
  refine lv_aload_n hx hb dL_law_1236 rfl (hL.at 2 rfl) ?_
  refine lv_aload_n hx hb dL_law_1237 rfl (hL.at 0 rfl) ?_
  refine lv_iload hx hb dL_law_1238 (hL.at 5 rfl) ?_
  refine lv_iconst (v := 1) hx hb dL_law_1240 (by decide) ?_
  refine lv_iadd hx hb dL_law_1241 ?_
  refine k_sld hx hb hX hbl hbA hS (k := 1) rfl (by omega) hL3 dL_law_1242 ?_
  refine k_bool hx hb dL_law_1243 dL_law_1246 dL_law_1247 dL_law_1250 ?_
  refine k_callV (q := (RX11, TX11, 13)) hx hb hml hown hts hK hI hS hW hL.1 (hm100) rfl (hR adC ctC hlR (e0.trans h0.2.2.2.2.2.1)) (m5 (gT_in q1316 rfl) (gT_in q1317 rfl) (gT_in q1318 rfl) (gT_in q57 rfl) (gT_in q1319 rfl)) rfl (show kpar yX11_shut 1 from ⟨by decide, by decide, by decide +kernel⟩) (by first | exact ⟨by decide, by decide⟩ | exact ⟨Nat.le_of_ble_eq_true rfl, Nat.le_of_ble_eq_true rfl⟩) (by show _ ≤ 601024; omega) (by show _ ≤ 7293034; omega) rfl (Nat.le_of_ble_eq_true rfl) dL_law_1251 (fun v adR ctR H locs hp hW hS => ?_)
  obtain ⟨bb, MR, rfl, hlR2, hfl, f100, hspR⟩ := hp
  rw [← f100, ← (hfl 1 (by omega)).1, ← (hfl 90 (by omega)).1, ← (hfl 91 (by omega)).1] at hL
  have hu := hok.1 _ _ _ _ hsp hspR
  refine lv_icmp_eq (tgt := 2221) hx hb dL_law_1254 (by decide) (fun c1254 => ?_) (fun c1254 => ?_)
  · try dsimp only at c1254
    
    exact W.widen (by omega) (by omega) (kk MR adR ctR H locs ls (lI_end hlC hu.2 hfl hlR2 (hok.2 _ _ hspR) (e0.trans h0.2.2.2.2.2.1) hou) hW hS (hL.le (by repeat (first | exact kle_nil | refine kle_same ?_ | refine kle_drop ?_))))
  · try dsimp only at c1254
    exact absurd hu.1 c1254

set_option maxHeartbeats 4000000 in
set_option maxRecDepth 100000 in
theorem L_bell {l : Launch} {D : va_G} {cy : Nat → ClassId} {sad : Nat → Nat} {em : Nat} {s0 : State} {a0 : Array Value} (G : kG kSTR l D cy sad em s0 a0) {p : Program} {e : Env} {s : State} {m : MethodId} {args : Array Value} {below : List Frame} {meth : Method} {c : Code} {H : Heap} {locs : List Loc} {cells slots : Nat} {Q : State → Prop} {ls : Array Slot} {b L : Nat} {xs : Nat → Int32} {nb : Nat} {M : tM} {ad : Nat → Nat} {ct : Nat → Option va_E}
    (hx : p.tables.exec = Jvm.exec) (hb : c.code = cL_law) (hml : c.maxLocals = 10) (hown : s.vm.findClass "TailorBenchLaw" = some m.cls) (hts : ∀ w ∈ gT, w.before args s = true) (hq : ∀ w ∈ lw_tbl, kgood w = true → w.before args s = true) (hK : va_K D vwCl (ktys cy) s) (hI : kI s0 s) (hX : va_X b L xs s s.heap) (hbl : b < s.heap.size) (hbA : ¬ kA s0 b) (hnb : 7 * nb + 7 ≤ L) (hL3 : L ≤ 3584) (h0 : lI cy em nb M ad ct) (hW : kW D s0.heap.size ad ct H) (hS : va_S (kA s0) s.heap H locs) (hL : lvP ls 10 [some (.ref b), some (.ref (ad 1)), some (.ref (ad 100)), some (.ref (ad 90)), some (.ref (ad 91)), some (.int (nI (7 * nb))), none, none, none, none]) (hcl : cells + 900 ≤ 601024) (hsl : slots + 13100 ≤ 7293034)
    {sp : Int32 → tM → Prop} (hok : spOk2 nb sp)
    (hC : KM l yX7_bell [.code yX7_bell prog_1_method_16_code 1 (some .int)] 0 0 0 0 [.ref (ad 1)] D s0 ad ct (dCx Value.int cy ad M sp))
    (hR : ∀ (adC : Nat → Nat) (ctC : Nat → Option va_E), lR cy adC ctC M → adC 0 = em → KM l yX11_bell [.code yX11_bell prog_10_method_37_code 1 (some .int)] 0 0 0 0 [.ref (adC 100)] D s0 adC ctC (dRx Value.int cy adC ctC sp))
    (kk : ∀ (M' : tM) (ad' : Nat → Nat) (ct' : Nat → Option va_E) (H' : Heap) (locs' : List Loc) (ls' : Array Slot), lI cy em (nb + 1) M' ad' ct' → kW D s0.heap.size ad' ct' H' → va_S (kA s0) s.heap H' locs' → lvP ls' 10 [some (.ref b), some (.ref (ad' 1)), some (.ref (ad' 100)), some (.ref (ad' 90)), some (.ref (ad' 91)), some (.int (nI (7 * nb))), none, none, none, none] → W p l e room_1 s m args below meth c H' locs' (cells + 900) (slots + 13100) Q (F0 m 2221 ls' [])) :
    W p l e room_1 s m args below meth c H locs cells slots Q (F0 m 1259 ls []) := by
  refine lv_aload_n hx hb dL_law_1259 rfl (hL.at 1 rfl) ?_
  refine k_callV (q := (RX7, TX7, 15)) hx hb hml hown hts hK hI hS hW hL.1 (h0.1.1.1) rfl (hC) (m5 (gT_in q199 rfl) (gT_in q200 rfl) (gT_in q201 rfl) (gT_in q55 rfl) (gT_in q202 rfl)) rfl (show kpar yX7_bell 0 from ⟨by decide, by decide, by decide +kernel⟩) (by first | exact ⟨by decide, by decide⟩ | exact ⟨Nat.le_of_ble_eq_true rfl, Nat.le_of_ble_eq_true rfl⟩) (by show _ ≤ 601024; omega) (by show _ ≤ 7293034; omega) rfl (Nat.le_of_ble_eq_true rfl) dL_law_1260 (fun v adC ctC H locs hp hW hS => ?_)
  obtain ⟨a, MC, fo, fd, rfl, hlC, hlR, ⟨e0, e1, e100, e90, e91⟩, hou, hsp⟩ := hp
  rw [← e1, ← e100, ← e90, ← e91] at hL
  obtain ⟨⟨th0, sm0, hm100⟩, -⟩ := id hlR
  refine lv_aload_n hx hb dL_law_1263 rfl (hL.at 2 rfl) ?_
  refine k_callV (q := (RX11, TX11, 13)) hx hb hml hown hts hK hI hS hW hL.1 (hm100) rfl (hR adC ctC hlR (e0.trans h0.2.2.2.2.2.1)) (m5 (gT_in q1320 rfl) (gT_in q1321 rfl) (gT_in q1322 rfl) (gT_in q57 rfl) (gT_in q1323 rfl)) rfl (show kpar yX11_bell 0 from ⟨by decide, by decide, by decide +kernel⟩) (by first | exact ⟨by decide, by decide⟩ | exact ⟨Nat.le_of_ble_eq_true rfl, Nat.le_of_ble_eq_true rfl⟩) (by show _ ≤ 601024; omega) (by show _ ≤ 7293034; omega) rfl (Nat.le_of_ble_eq_true rfl) dL_law_1264 (fun v adR ctR H locs hp hW hS => ?_)
  obtain ⟨bb, MR, rfl, hlR2, hfl, f100, hspR⟩ := hp
  rw [← f100, ← (hfl 1 (by omega)).1, ← (hfl 90 (by omega)).1, ← (hfl 91 (by omega)).1] at hL
  have hu := hok.1 _ _ _ _ hsp hspR
  refine lv_icmp_eq (tgt := 2221) hx hb dL_law_1267 (by decide) (fun c1267 => ?_) (fun c1267 => ?_)
  · try dsimp only at c1267
    
    exact W.widen (by omega) (by omega) (kk MR adR ctR H locs ls (lI_end hlC hu.2 hfl hlR2 (hok.2 _ _ hspR) (e0.trans h0.2.2.2.2.2.1) hou) hW hS (hL.le (by repeat (first | exact kle_nil | refine kle_same ?_ | refine kle_drop ?_))))
  · try dsimp only at c1267
    exact absurd hu.1 c1267

set_option maxHeartbeats 4000000 in
set_option maxRecDepth 100000 in
theorem L_clock {l : Launch} {D : va_G} {cy : Nat → ClassId} {sad : Nat → Nat} {em : Nat} {s0 : State} {a0 : Array Value} (G : kG kSTR l D cy sad em s0 a0) {p : Program} {e : Env} {s : State} {m : MethodId} {args : Array Value} {below : List Frame} {meth : Method} {c : Code} {H : Heap} {locs : List Loc} {cells slots : Nat} {Q : State → Prop} {ls : Array Slot} {b L : Nat} {xs : Nat → Int32} {nb : Nat} {M : tM} {ad : Nat → Nat} {ct : Nat → Option va_E}
    (hx : p.tables.exec = Jvm.exec) (hb : c.code = cL_law) (hml : c.maxLocals = 10) (hown : s.vm.findClass "TailorBenchLaw" = some m.cls) (hts : ∀ w ∈ gT, w.before args s = true) (hq : ∀ w ∈ lw_tbl, kgood w = true → w.before args s = true) (hK : va_K D vwCl (ktys cy) s) (hI : kI s0 s) (hX : va_X b L xs s s.heap) (hbl : b < s.heap.size) (hbA : ¬ kA s0 b) (hnb : 7 * nb + 7 ≤ L) (hL3 : L ≤ 3584) (h0 : lI cy em nb M ad ct) (hW : kW D s0.heap.size ad ct H) (hS : va_S (kA s0) s.heap H locs) (hL : lvP ls 10 [some (.ref b), some (.ref (ad 1)), some (.ref (ad 100)), some (.ref (ad 90)), some (.ref (ad 91)), some (.int (nI (7 * nb))), none, none, none, none]) (hcl : cells + 900 ≤ 601024) (hsl : slots + 13100 ≤ 7293034)
    {sp : UInt64 → tM → Prop} (hok : spOk2 nb sp)
    (hC : KM l yX7_clock [.code yX7_clock prog_1_method_23_code 1 (some .double)] 0 0 0 0 [.ref (ad 1)] D s0 ad ct (dCx Value.double cy ad M sp))
    (hR : ∀ (adC : Nat → Nat) (ctC : Nat → Option va_E), lR cy adC ctC M → adC 0 = em → KM l yX11_clock [.code yX11_clock prog_10_method_46_code 1 (some .double)] 0 0 0 0 [.ref (adC 100)] D s0 adC ctC (dRx Value.double cy adC ctC sp))
    (kk : ∀ (M' : tM) (ad' : Nat → Nat) (ct' : Nat → Option va_E) (H' : Heap) (locs' : List Loc) (ls' : Array Slot), lI cy em (nb + 1) M' ad' ct' → kW D s0.heap.size ad' ct' H' → va_S (kA s0) s.heap H' locs' → lvP ls' 10 [some (.ref b), some (.ref (ad' 1)), some (.ref (ad' 100)), some (.ref (ad' 90)), some (.ref (ad' 91)), some (.int (nI (7 * nb))), none, none, none, none] → W p l e room_1 s m args below meth c H' locs' (cells + 900) (slots + 13100) Q (F0 m 2221 ls' [])) :
    W p l e room_1 s m args below meth c H locs cells slots Q (F0 m 1817 ls []) := by
  refine lv_aload_n hx hb dL_law_1817 rfl (hL.at 1 rfl) ?_
  refine k_callV (q := (RX7, TX7, 15)) hx hb hml hown hts hK hI hS hW hL.1 (h0.1.1.1) rfl (hC) (m5 (gT_in q203 rfl) (gT_in q204 rfl) (gT_in q205 rfl) (gT_in q55 rfl) (gT_in q206 rfl)) rfl (show kpar yX7_clock 0 from ⟨by decide, by decide, by decide +kernel⟩) (by first | exact ⟨by decide, by decide⟩ | exact ⟨Nat.le_of_ble_eq_true rfl, Nat.le_of_ble_eq_true rfl⟩) (by show _ ≤ 601024; omega) (by show _ ≤ 7293034; omega) rfl (Nat.le_of_ble_eq_true rfl) dL_law_1818 (fun v adC ctC H locs hp hW hS => ?_)
  obtain ⟨a, MC, fo, fd, rfl, hlC, hlR, ⟨e0, e1, e100, e90, e91⟩, hou, hsp⟩ := hp
  rw [← e1, ← e100, ← e90, ← e91] at hL
  obtain ⟨⟨th0, sm0, hm100⟩, -⟩ := id hlR
  refine k_dst hx hb hL (i := 6) (by decide) dL_law_1821 (fun ls hL => ?_)
  replace hL := hL.nrm (l' := [some _, some _, some _, some _, some _, some _, some _, none, none, none]) rfl
  refine lv_aload_n hx hb dL_law_1823 rfl (hL.at 2 rfl) ?_
  refine k_callV (q := (RX11, TX11, 13)) hx hb hml hown hts hK hI hS hW hL.1 (hm100) rfl (hR adC ctC hlR (e0.trans h0.2.2.2.2.2.1)) (m5 (gT_in q1356 rfl) (gT_in q1357 rfl) (gT_in q1358 rfl) (gT_in q57 rfl) (gT_in q1359 rfl)) rfl (show kpar yX11_clock 0 from ⟨by decide, by decide, by decide +kernel⟩) (by first | exact ⟨by decide, by decide⟩ | exact ⟨Nat.le_of_ble_eq_true rfl, Nat.le_of_ble_eq_true rfl⟩) (by show _ ≤ 601024; omega) (by show _ ≤ 7293034; omega) rfl (Nat.le_of_ble_eq_true rfl) dL_law_1824 (fun v adR ctR H locs hp hW hS => ?_)
  obtain ⟨bb, MR, rfl, hlR2, hfl, f100, hspR⟩ := hp
  rw [← f100, ← (hfl 1 (by omega)).1, ← (hfl 90 (by omega)).1, ← (hfl 91 (by omega)).1] at hL
  have hu := hok.1 _ _ _ _ hsp hspR
  refine k_dst hx hb hL (i := 8) (by decide) dL_law_1827 (fun ls hL => ?_)
  replace hL := hL.nrm (l' := [some _, some _, some _, some _, some _, some _, some _, none, some _, none]) rfl
  rw [← hu.1] at hL
  refine lv_dload hx hb dL_law_1829 (hL.at 6 rfl) ?_
  refine lv_dload hx hb dL_law_1831 (hL.at 8 rfl) ?_
  refine lv_dcmp hx hb dL_law_1833 ?_
  refine lv_if_eq (tgt := 1855) hx hb dL_law_1834 (by decide) (fun c1834 => ?_) (fun c1834 => ?_)
  · rw [cl_eq] at c1834
    
    refine lv_goto (tgt := 2221) hx hb dL_law_1855 (by decide) ?_
    exact W.widen (by omega) (by omega) (kk MR adR ctR H locs ls (lI_end hlC hu.2 hfl hlR2 (hok.2 _ _ hspR) (e0.trans h0.2.2.2.2.2.1) hou) hW hS (hL.le (by repeat (first | exact kle_nil | refine kle_same ?_ | refine kle_drop ?_))))
  · rw [cl_eq] at c1834
    
    refine lv_dload hx hb dL_law_1837 (hL.at 6 rfl) ?_
    refine lv_dload hx hb dL_law_1839 (hL.at 6 rfl) ?_
    refine lv_dcmp hx hb dL_law_1841 ?_
    refine lv_if_eq (tgt := 1853) hx hb dL_law_1842 (by decide) (fun c1842 => ?_) (fun c1842 => ?_)
    · rw [cl_eq] at c1842
      exact absurd c1842 c1834
    · rw [cl_eq] at c1842
      
      refine lv_dload hx hb dL_law_1845 (hL.at 8 rfl) ?_
      refine lv_dload hx hb dL_law_1847 (hL.at 8 rfl) ?_
      refine lv_dcmp hx hb dL_law_1849 ?_
      refine lv_if_ne (tgt := 1855) hx hb dL_law_1850 (by decide) (fun c1850 => ?_) (fun c1850 => ?_)
      · rw [cl_eq] at c1850
        
        refine lv_goto (tgt := 2221) hx hb dL_law_1855 (by decide) ?_
        exact W.widen (by omega) (by omega) (kk MR adR ctR H locs ls (lI_end hlC hu.2 hfl hlR2 (hok.2 _ _ hspR) (e0.trans h0.2.2.2.2.2.1) hou) hW hS (hL.le (by repeat (first | exact kle_nil | refine kle_same ?_ | refine kle_drop ?_))))
      · rw [cl_eq] at c1850
        exact absurd (by first | exact c1850 | exact Decidable.not_not.mp c1850) c1834

set_option maxHeartbeats 4000000 in
set_option maxRecDepth 100000 in
theorem L_digest {l : Launch} {D : va_G} {cy : Nat → ClassId} {sad : Nat → Nat} {em : Nat} {s0 : State} {a0 : Array Value} (G : kG kSTR l D cy sad em s0 a0) {p : Program} {e : Env} {s : State} {m : MethodId} {args : Array Value} {below : List Frame} {meth : Method} {c : Code} {H : Heap} {locs : List Loc} {cells slots : Nat} {Q : State → Prop} {ls : Array Slot} {b L : Nat} {xs : Nat → Int32} {nb : Nat} {M : tM} {ad : Nat → Nat} {ct : Nat → Option va_E}
    (hx : p.tables.exec = Jvm.exec) (hb : c.code = cL_law) (hml : c.maxLocals = 10) (hown : s.vm.findClass "TailorBenchLaw" = some m.cls) (hts : ∀ w ∈ gT, w.before args s = true) (hq : ∀ w ∈ lw_tbl, kgood w = true → w.before args s = true) (hK : va_K D vwCl (ktys cy) s) (hI : kI s0 s) (hX : va_X b L xs s s.heap) (hbl : b < s.heap.size) (hbA : ¬ kA s0 b) (hnb : 7 * nb + 7 ≤ L) (hL3 : L ≤ 3584) (h0 : lI cy em nb M ad ct) (hW : kW D s0.heap.size ad ct H) (hS : va_S (kA s0) s.heap H locs) (hL : lvP ls 10 [some (.ref b), some (.ref (ad 1)), some (.ref (ad 100)), some (.ref (ad 90)), some (.ref (ad 91)), some (.int (nI (7 * nb))), none, none, none, none]) (hcl : cells + 900 ≤ 601024) (hsl : slots + 13100 ≤ 7293034)
    {sp : Int64 → tM → Prop} (hok : spOk2 nb sp)
    (hC : KM l yX7_digest [.code yX7_digest prog_1_method_29_code 5 (some .long)] 6 150 0 0 [.ref (ad 1)] D s0 ad ct (dCx Value.long cy ad M sp))
    (hR : ∀ (adC : Nat → Nat) (ctC : Nat → Option va_E), lR cy adC ctC M → adC 0 = em → KM l yX11_digest [.code yX11_digest prog_10_method_58_code 4 (some .long)] 10 1610 865 13032 [.ref (adC 100)] D s0 adC ctC (dRx Value.long cy adC ctC sp))
    (kk : ∀ (M' : tM) (ad' : Nat → Nat) (ct' : Nat → Option va_E) (H' : Heap) (locs' : List Loc) (ls' : Array Slot), lI cy em (nb + 1) M' ad' ct' → kW D s0.heap.size ad' ct' H' → va_S (kA s0) s.heap H' locs' → lvP ls' 10 [some (.ref b), some (.ref (ad' 1)), some (.ref (ad' 100)), some (.ref (ad' 90)), some (.ref (ad' 91)), some (.int (nI (7 * nb))), none, none, none, none] → W p l e room_1 s m args below meth c H' locs' (cells + 900) (slots + 13100) Q (F0 m 2221 ls' [])) :
    W p l e room_1 s m args below meth c H locs cells slots Q (F0 m 2207 ls []) := by
  refine lv_aload_n hx hb dL_law_2207 rfl (hL.at 1 rfl) ?_
  refine k_callV (q := (RX7, TX7, 15)) hx hb hml hown hts hK hI hS hW hL.1 (h0.1.1.1) rfl (hC) (m5 (gT_in q207 rfl) (gT_in q208 rfl) (gT_in q209 rfl) (gT_in q55 rfl) (gT_in q210 rfl)) rfl (show kpar yX7_digest 0 from ⟨by decide, by decide, by decide +kernel⟩) (by first | exact ⟨by decide, by decide⟩ | exact ⟨Nat.le_of_ble_eq_true rfl, Nat.le_of_ble_eq_true rfl⟩) (by show _ ≤ 601024; omega) (by show _ ≤ 7293034; omega) rfl (Nat.le_of_ble_eq_true rfl) dL_law_2208 (fun v adC ctC H locs hp hW hS => ?_)
  obtain ⟨a, MC, fo, fd, rfl, hlC, hlR, ⟨e0, e1, e100, e90, e91⟩, hou, hsp⟩ := hp
  rw [← e1, ← e100, ← e90, ← e91] at hL
  obtain ⟨⟨th0, sm0, hm100⟩, -⟩ := id hlR
  refine lv_aload_n hx hb dL_law_2211 rfl (hL.at 2 rfl) ?_
  refine k_callV (q := (RX11, TX11, 13)) hx hb hml hown hts hK hI hS hW hL.1 (hm100) rfl (hR adC ctC hlR (e0.trans h0.2.2.2.2.2.1)) (m5 (gT_in q1397 rfl) (gT_in q1398 rfl) (gT_in q1399 rfl) (gT_in q57 rfl) (gT_in q1400 rfl)) rfl (show kpar yX11_digest 0 from ⟨by decide, by decide, by decide +kernel⟩) (by first | exact ⟨by decide, by decide⟩ | exact ⟨Nat.le_of_ble_eq_true rfl, Nat.le_of_ble_eq_true rfl⟩) (by show _ ≤ 601024; omega) (by show _ ≤ 7293034; omega) rfl (Nat.le_of_ble_eq_true rfl) dL_law_2212 (fun v adR ctR H locs hp hW hS => ?_)
  obtain ⟨bb, MR, rfl, hlR2, hfl, f100, hspR⟩ := hp
  rw [← f100, ← (hfl 1 (by omega)).1, ← (hfl 90 (by omega)).1, ← (hfl 91 (by omega)).1] at hL
  have hu := hok.1 _ _ _ _ hsp hspR
  refine W.lcmp hx hb dL_law_2215 ?_
  rw [hu.1]
  refine lv_if_eq (tgt := 2221) hx hb dL_law_2216 (by decide) (fun c2216 => ?_) (fun c2216 => ?_)
  · try dsimp only at c2216
    
    exact W.widen (by omega) (by omega) (kk MR adR ctR H locs ls (lI_end hlC hu.2 hfl hlR2 (hok.2 _ _ hspR) (e0.trans h0.2.2.2.2.2.1) hou) hW hS (hL.le (by repeat (first | exact kle_nil | refine kle_same ?_ | refine kle_drop ?_))))
  · try dsimp only at c2216
    exact absurd (lg_self _) c2216
