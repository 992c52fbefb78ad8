/-! the law: its cases -/
set_option maxHeartbeats 4000000 in
set_option maxRecDepth 100000 in
theorem L_cloth {l : Launch} {D : va_G} {cy : Nat → ClassId} {sad : Nat → Nat} {em : Nat} {s0 : State} {a0 : Array Value} (G : kG kSTR l D cy sad em s0 a0) {p : Program} {e : Env} {s : State} {m : MethodId} {args : Array Value} {below : List Frame} {meth : Method} {c : Code} {H : Heap} {locs : List Loc} {cells slots : Nat} {Q : State → Prop} {ls : Array Slot} {b L : Nat} {xs : Nat → Int32} {nb : Nat} {M : tM} {ad : Nat → Nat} {ct : Nat → Option va_E}
    (hx : p.tables.exec = Jvm.exec) (hb : c.code = cL_law) (hml : c.maxLocals = 10) (hown : s.vm.findClass "TailorBenchLaw" = some m.cls) (hts : ∀ w ∈ gT, w.before args s = true) (hq : ∀ w ∈ lw_tbl, kgood w = true → w.before args s = true) (hK : va_K D vwCl (ktys cy) s) (hI : kI s0 s) (hX : va_X b L xs s s.heap) (hbl : b < s.heap.size) (hbA : ¬ kA s0 b) (hnb : 7 * nb + 7 ≤ L) (hL3 : L ≤ 3584) (h0 : lI cy em nb M ad ct) (hW : kW D s0.heap.size ad ct H) (hS : va_S (kA s0) s.heap H locs) (hL : lvP ls 10 [some (.ref b), some (.ref (ad 1)), some (.ref (ad 100)), some (.ref (ad 90)), some (.ref (ad 91)), some (.int (nI (7 * nb))), none, none, none, none]) (hcl : cells + 900 ≤ 601024) (hsl : slots + 13100 ≤ 7293034)
    {sp : Int32 → Int32 → tM → Prop} (hok : spOk nb sp)
    (hC : KM l yL_cloth [.codeWith yL_cloth method_3_code 9 (some .int) [(0, 18, 21, 13), (0, 18, 25, 15)]] 7 116 2 12 [.ref (ad 1), .int (xs (7 * nb + 1)), .int (xs (7 * nb + 2)), .int (xs (7 * nb + 3)), .int (xs (7 * nb + 4)), .int (fBo (xs (7 * nb + 5))), .int (xs (7 * nb + 6)), .ref (ad 90)] D s0 ad ct (oCi cy ad M sp))
    (hR : ∀ (adC : Nat → Nat) (ctC : Nat → Option va_E), lR cy adC ctC M → adC 0 = em → KM l yX11_cloth [.code yX11_cloth prog_10_method_6_code 8 (some .int)] 6 170 2 16 [.ref (adC 100), .int (xs (7 * nb + 1)), .int (xs (7 * nb + 2)), .int (xs (7 * nb + 3)), .int (xs (7 * nb + 4)), .int (fBo (xs (7 * nb + 5))), .int (xs (7 * nb + 6))] D s0 adC ctC (oRi cy adC ctC sp))
    (kk : ∀ (M' : tM) (ad' : Nat → Nat) (ct' : Nat → Option va_E) (H' : Heap) (locs' : List Loc) (ls' : Array Slot), lI cy em (nb + 1) M' ad' ct' → kW D s0.heap.size ad' ct' H' → va_S (kA s0) s.heap H' locs' → lvP ls' 10 [some (.ref b), some (.ref (ad' 1)), some (.ref (ad' 100)), some (.ref (ad' 90)), some (.ref (ad' 91)), some (.int (nI (7 * nb))), none, none, none, none] → W p l e room_1 s m args below meth c H' locs' (cells + 900) (slots + 13100) Q (F0 m 2221 ls' [])) :
    W p l e room_1 s m args below meth c H locs cells slots Q (F0 m 172 ls []) := by
  refine lv_aload_n hx hb dL_law_172 rfl (hL.at 1 rfl) ?_
  refine lv_aload_n hx hb dL_law_173 rfl (hL.at 0 rfl) ?_
  refine lv_iload hx hb dL_law_174 (hL.at 5 rfl) ?_
  refine lv_iconst (v := 1) hx hb dL_law_176 (by decide) ?_
  refine lv_iadd hx hb dL_law_177 ?_
  refine k_sld hx hb hX hbl hbA hS (k := 1) rfl (by omega) hL3 dL_law_178 ?_
  refine lv_aload_n hx hb dL_law_179 rfl (hL.at 0 rfl) ?_
  refine lv_iload hx hb dL_law_180 (hL.at 5 rfl) ?_
  refine lv_iconst (v := 2) hx hb dL_law_182 (by decide) ?_
  refine lv_iadd hx hb dL_law_183 ?_
  refine k_sld hx hb hX hbl hbA hS (k := 2) rfl (by omega) hL3 dL_law_184 ?_
  refine lv_aload_n hx hb dL_law_185 rfl (hL.at 0 rfl) ?_
  refine lv_iload hx hb dL_law_186 (hL.at 5 rfl) ?_
  refine lv_iconst (v := 3) hx hb dL_law_188 (by decide) ?_
  refine lv_iadd hx hb dL_law_189 ?_
  refine k_sld hx hb hX hbl hbA hS (k := 3) rfl (by omega) hL3 dL_law_190 ?_
  refine lv_aload_n hx hb dL_law_191 rfl (hL.at 0 rfl) ?_
  refine lv_iload hx hb dL_law_192 (hL.at 5 rfl) ?_
  refine lv_iconst (v := 4) hx hb dL_law_194 (by decide) ?_
  refine lv_iadd hx hb dL_law_195 ?_
  refine k_sld hx hb hX hbl hbA hS (k := 4) rfl (by omega) hL3 dL_law_196 ?_
  refine lv_aload_n hx hb dL_law_197 rfl (hL.at 0 rfl) ?_
  refine lv_iload hx hb dL_law_198 (hL.at 5 rfl) ?_
  refine lv_iconst (v := 5) hx hb dL_law_200 (by decide) ?_
  refine lv_iadd hx hb dL_law_201 ?_
  refine k_sld hx hb hX hbl hbA hS (k := 5) rfl (by omega) hL3 dL_law_202 ?_
  refine k_bool hx hb dL_law_203 dL_law_206 dL_law_207 dL_law_210 ?_
  refine lv_aload_n hx hb dL_law_211 rfl (hL.at 0 rfl) ?_
  refine lv_iload hx hb dL_law_212 (hL.at 5 rfl) ?_
  refine lv_bipush (v := 6) hx hb dL_law_214 (by decide) ?_
  refine lv_iadd hx hb dL_law_216 ?_
  refine k_sld hx hb hX hbl hbA hS (k := 6) rfl (by omega) hL3 dL_law_217 ?_
  refine lv_aload_n hx hb dL_law_218 rfl (hL.at 3 rfl) ?_
  refine k_callSH hx hb hml hown hts hI hS hW hL.1 hC (m4 (gT_in q439 rfl) (gT_in q440 rfl) (gT_in q54 rfl) (gT_in q441 rfl)) (show kpar yL_cloth 8 from ⟨by decide, by decide, by decide +kernel⟩) (by first | exact ⟨by decide, by decide⟩ | exact ⟨Nat.le_of_ble_eq_true rfl, Nat.le_of_ble_eq_true rfl⟩) (by show _ ≤ 601024; omega) (by show _ ≤ 7293034; omega) rfl (by decide) dL_law_219 (fun v adC ctC H locs hp hW hS => ?_)
  obtain ⟨kc, a, MC, fo, fd, rfl, hlC, hlR, ⟨e0, e1, e100, e90, e91⟩, hou, hk0, hsp⟩ := hp
  rw [← e1, ← e100, ← e90, ← e91] at hL
  obtain ⟨⟨th0, sm0, hm100⟩, -⟩ := id hlR
  refine k_ist hx hb hL (i := 6) (by decide) dL_law_222 (fun ls hL => ?_)
  replace hL := hL.nrm (l' := [some _, some _, some _, some _, some _, some _, some _, none, none, none]) rfl
  refine lv_aload_n hx hb dL_law_224 rfl (hL.at 2 rfl) ?_
  refine lv_aload_n hx hb dL_law_225 rfl (hL.at 0 rfl) ?_
  refine lv_iload hx hb dL_law_226 (hL.at 5 rfl) ?_
  refine lv_iconst (v := 1) hx hb dL_law_228 (by decide) ?_
  refine lv_iadd hx hb dL_law_229 ?_
  refine k_sld hx hb hX hbl hbA hS (k := 1) rfl (by omega) hL3 dL_law_230 ?_
  refine lv_aload_n hx hb dL_law_231 rfl (hL.at 0 rfl) ?_
  refine lv_iload hx hb dL_law_232 (hL.at 5 rfl) ?_
  refine lv_iconst (v := 2) hx hb dL_law_234 (by decide) ?_
  refine lv_iadd hx hb dL_law_235 ?_
  refine k_sld hx hb hX hbl hbA hS (k := 2) rfl (by omega) hL3 dL_law_236 ?_
  refine lv_aload_n hx hb dL_law_237 rfl (hL.at 0 rfl) ?_
  refine lv_iload hx hb dL_law_238 (hL.at 5 rfl) ?_
  refine lv_iconst (v := 3) hx hb dL_law_240 (by decide) ?_
  refine lv_iadd hx hb dL_law_241 ?_
  refine k_sld hx hb hX hbl hbA hS (k := 3) rfl (by omega) hL3 dL_law_242 ?_
  refine lv_aload_n hx hb dL_law_243 rfl (hL.at 0 rfl) ?_
  refine lv_iload hx hb dL_law_244 (hL.at 5 rfl) ?_
  refine lv_iconst (v := 4) hx hb dL_law_246 (by decide) ?_
  refine lv_iadd hx hb dL_law_247 ?_
  refine k_sld hx hb hX hbl hbA hS (k := 4) rfl (by omega) hL3 dL_law_248 ?_
  refine lv_aload_n hx hb dL_law_249 rfl (hL.at 0 rfl) ?_
  refine lv_iload hx hb dL_law_250 (hL.at 5 rfl) ?_
  refine lv_iconst (v := 5) hx hb dL_law_252 (by decide) ?_
  refine lv_iadd hx hb dL_law_253 ?_
  refine k_sld hx hb hX hbl hbA hS (k := 5) rfl (by omega) hL3 dL_law_254 ?_
  refine k_bool hx hb dL_law_255 dL_law_258 dL_law_259 dL_law_262 ?_
  refine lv_aload_n hx hb dL_law_263 rfl (hL.at 0 rfl) ?_
  refine lv_iload hx hb dL_law_264 (hL.at 5 rfl) ?_
  refine lv_bipush (v := 6) hx hb dL_law_266 (by decide) ?_
  refine lv_iadd hx hb dL_law_268 ?_
  refine k_sld hx hb hX hbl hbA hS (k := 6) rfl (by omega) hL3 dL_law_269 ?_
  refine k_callV (q := (RX11, TX11, 13)) hx hb hml hown hts hK hI hS hW hL.1 (hm100) rfl (hR adC ctC hlR (e0.trans h0.2.2.2.2.2.1)) (m5 (gT_in q916 rfl) (gT_in q917 rfl) (gT_in q918 rfl) (gT_in q57 rfl) (gT_in q919 rfl)) rfl (show kpar yX11_cloth 6 from ⟨by decide, by decide, by decide +kernel⟩) (by first | exact ⟨by decide, by decide⟩ | exact ⟨Nat.le_of_ble_eq_true rfl, Nat.le_of_ble_eq_true rfl⟩) (by show _ ≤ 601024; omega) (by show _ ≤ 7293034; omega) rfl (by decide) dL_law_270 (fun v adR ctR H locs hp hW hS => ?_)
  obtain ⟨bb, th, sm, MR, rfl, hmR, hlR2, hfl, f100, hspR⟩ := hp
  rw [← f100, ← (hfl 1 (by omega)).1, ← (hfl 90 (by omega)).1, ← (hfl 91 (by omega)).1] at hL
  refine k_ist hx hb hL (i := 7) (by decide) dL_law_273 (fun ls hL => ?_)
  replace hL := hL.nrm (l' := [some _, some _, some _, some _, some _, some _, some _, some _, none, none]) rfl
  refine lv_aload_n hx hb dL_law_275 rfl (hL.at 2 rfl) ?_
  refine k_callV (q := (RX11, TX11, 13)) hx hb hml hown hts hK hI hS hW hL.1 (hmR) rfl (r_thrown G hmR) (m5 (gT_in q912 rfl) (gT_in q913 rfl) (gT_in q914 rfl) (gT_in q57 rfl) (gT_in q915 rfl)) rfl (show kpar yX11_thrown 0 from ⟨by decide, by decide, by decide +kernel⟩) (by first | exact ⟨by decide, by decide⟩ | exact ⟨Nat.le_of_ble_eq_true rfl, Nat.le_of_ble_eq_true rfl⟩) (by show _ ≤ 601024; omega) (by show _ ≤ 7293034; omega) rfl (by decide) dL_law_276 (fun v adT ctT H locs hp hW hS => ?_)
  obtain ⟨rfl, h1, h2⟩ := hp
  rw [h1, h2] at hW
  have hu := hok.1 _ _ _ _ _ _ hsp hspR
  refine lv_iload hx hb dL_law_279 (hL.at 6 rfl) ?_
  refine lv_icmp_eq (tgt := 286) hx hb dL_law_281 (by decide) (fun c281 => ?_) (fun c281 => ?_)
  · try dsimp only at c281
    
    refine lv_iload hx hb dL_law_286 (hL.at 6 rfl) ?_
    refine lv_if_ne (tgt := 303) hx hb dL_law_288 (by decide) (fun c288 => ?_) (fun c288 => ?_)
    · try dsimp only at c288
      refine lv_goto (tgt := 2221) hx hb dL_law_303 (by decide) ?_
      exact W.widen (by omega) (by omega) (kk MR adR ctR H locs ls (lI_end hlC hu.2.2 hfl hlR2 (hok.2 _ _ _ hspR) (e0.trans h0.2.2.2.2.2.1) hou) hW hS (hL.le (by repeat (first | exact kle_nil | refine kle_same ?_ | refine kle_drop ?_))))
    · try dsimp only at c288
      refine lv_aload_n hx hb dL_law_291 rfl (hL.at 3 rfl) ?_
      refine lv_iconst (v := 0) hx hb dL_law_292 (by decide) ?_
      refine k_lald hx hb hK hW ((hfl 90 (by omega)).2.trans hou.1) 0 (by omega) (by omega) rfl dL_law_293 ?_
      rw [hk0 c288, hu.2.1 c288]
      refine lv_iload hx hb dL_law_294 (hL.at 7 rfl) ?_
      refine lv_i2l hx hb dL_law_296 rfl ?_
      refine W.lcmp hx hb dL_law_297 ?_
      refine lv_if_eq (tgt := 303) hx hb dL_law_298 (by decide) (fun c298 => ?_) (fun c298 => ?_)
      · try dsimp only at c298
        
        refine lv_goto (tgt := 2221) hx hb dL_law_303 (by decide) ?_
        exact W.widen (by omega) (by omega) (kk MR adR ctR H locs ls (lI_end hlC hu.2.2 hfl hlR2 (hok.2 _ _ _ hspR) (e0.trans h0.2.2.2.2.2.1) hou) hW hS (hL.le (by repeat (first | exact kle_nil | refine kle_same ?_ | refine kle_drop ?_))))
      · try dsimp only at c298
        exact absurd (lg_self _) c298
  · try dsimp only at c281
    exact absurd hu.1.symm c281

set_option maxHeartbeats 4000000 in
set_option maxRecDepth 100000 in
theorem L_wash {l : Launch} {D : va_G} {cy : Nat → ClassId} {sad : Nat → Nat} {em : Nat} {s0 : State} {a0 : Array Value} (G : kG kSTR l D cy sad em s0 a0) {p : Program} {e : Env} {s : State} {m : MethodId} {args : Array Value} {below : List Frame} {meth : Method} {c : Code} {H : Heap} {locs : List Loc} {cells slots : Nat} {Q : State → Prop} {ls : Array Slot} {b L : Nat} {xs : Nat → Int32} {nb : Nat} {M : tM} {ad : Nat → Nat} {ct : Nat → Option va_E}
    (hx : p.tables.exec = Jvm.exec) (hb : c.code = cL_law) (hml : c.maxLocals = 10) (hown : s.vm.findClass "TailorBenchLaw" = some m.cls) (hts : ∀ w ∈ gT, w.before args s = true) (hq : ∀ w ∈ lw_tbl, kgood w = true → w.before args s = true) (hK : va_K D vwCl (ktys cy) s) (hI : kI s0 s) (hX : va_X b L xs s s.heap) (hbl : b < s.heap.size) (hbA : ¬ kA s0 b) (hnb : 7 * nb + 7 ≤ L) (hL3 : L ≤ 3584) (h0 : lI cy em nb M ad ct) (hW : kW D s0.heap.size ad ct H) (hS : va_S (kA s0) s.heap H locs) (hL : lvP ls 10 [some (.ref b), some (.ref (ad 1)), some (.ref (ad 100)), some (.ref (ad 90)), some (.ref (ad 91)), some (.int (nI (7 * nb))), none, none, none, none]) (hcl : cells + 900 ≤ 601024) (hsl : slots + 13100 ≤ 7293034)
    {sp : Int32 → UInt64 → tM → Prop} (hok : spOk nb sp)
    (hC : KM l yL_wash [.codeWith yL_wash method_4_code 4 (some .int) [(0, 8, 11, 21)]] 8 144 2 12 [.ref (ad 1), .int (xs (7 * nb + 1)), .ref (ad 91)] D s0 ad ct (oCd cy ad M sp))
    (hR : ∀ (adC : Nat → Nat) (ctC : Nat → Option va_E), lR cy adC ctC M → adC 0 = em → KM l yX11_wash [.code yX11_wash prog_10_method_8_code 3 (some .double)] 4 120 0 0 [.ref (adC 100), .int (xs (7 * nb + 1))] D s0 adC ctC (oRd cy adC ctC sp))
    (kk : ∀ (M' : tM) (ad' : Nat → Nat) (ct' : Nat → Option va_E) (H' : Heap) (locs' : List Loc) (ls' : Array Slot), lI cy em (nb + 1) M' ad' ct' → kW D s0.heap.size ad' ct' H' → va_S (kA s0) s.heap H' locs' → lvP ls' 10 [some (.ref b), some (.ref (ad' 1)), some (.ref (ad' 100)), some (.ref (ad' 90)), some (.ref (ad' 91)), some (.int (nI (7 * nb))), none, none, none, none] → W p l e room_1 s m args below meth c H' locs' (cells + 900) (slots + 13100) Q (F0 m 2221 ls' [])) :
    W p l e room_1 s m args below meth c H locs cells slots Q (F0 m 306 ls []) := by
  refine lv_aload_n hx hb dL_law_306 rfl (hL.at 1 rfl) ?_
  refine lv_aload_n hx hb dL_law_307 rfl (hL.at 0 rfl) ?_
  refine lv_iload hx hb dL_law_308 (hL.at 5 rfl) ?_
  refine lv_iconst (v := 1) hx hb dL_law_310 (by decide) ?_
  refine lv_iadd hx hb dL_law_311 ?_
  refine k_sld hx hb hX hbl hbA hS (k := 1) rfl (by omega) hL3 dL_law_312 ?_
  refine lv_aload hx hb dL_law_313 (hL.at 4 rfl) ?_
  refine k_callSH hx hb hml hown hts hI hS hW hL.1 hC (m4 (gT_in q498 rfl) (gT_in q499 rfl) (gT_in q54 rfl) (gT_in q500 rfl)) (show kpar yL_wash 3 from ⟨by decide, by decide, by decide +kernel⟩) (by first | exact ⟨by decide, by decide⟩ | exact ⟨Nat.le_of_ble_eq_true rfl, Nat.le_of_ble_eq_true rfl⟩) (by show _ ≤ 601024; omega) (by show _ ≤ 7293034; omega) rfl (by decide) dL_law_315 (fun v adC ctC H locs hp hW hS => ?_)
  obtain ⟨kc, a, MC, fo, fd, rfl, hlC, hlR, ⟨e0, e1, e100, e90, e91⟩, hou, hk0, hsp⟩ := hp
  rw [← e1, ← e100, ← e90, ← e91] at hL
  obtain ⟨⟨th0, sm0, hm100⟩, -⟩ := id hlR
  refine k_ist hx hb hL (i := 6) (by decide) dL_law_318 (fun ls hL => ?_)
  replace hL := hL.nrm (l' := [some _, some _, some _, some _, some _, some _, some _, none, none, none]) rfl
  refine lv_aload_n hx hb dL_law_320 rfl (hL.at 2 rfl) ?_
  refine lv_aload_n hx hb dL_law_321 rfl (hL.at 0 rfl) ?_
  refine lv_iload hx hb dL_law_322 (hL.at 5 rfl) ?_
  refine lv_iconst (v := 1) hx hb dL_law_324 (by decide) ?_
  refine lv_iadd hx hb dL_law_325 ?_
  refine k_sld hx hb hX hbl hbA hS (k := 1) rfl (by omega) hL3 dL_law_326 ?_
  refine k_callV (q := (RX11, TX11, 13)) hx hb hml hown hts hK hI hS hW hL.1 (hm100) rfl (hR adC ctC hlR (e0.trans h0.2.2.2.2.2.1)) (m5 (gT_in q1022 rfl) (gT_in q1023 rfl) (gT_in q1024 rfl) (gT_in q57 rfl) (gT_in q1025 rfl)) rfl (show kpar yX11_wash 1 from ⟨by decide, by decide, by decide +kernel⟩) (by first | exact ⟨by decide, by decide⟩ | exact ⟨Nat.le_of_ble_eq_true rfl, Nat.le_of_ble_eq_true rfl⟩) (by show _ ≤ 601024; omega) (by show _ ≤ 7293034; omega) rfl (by decide) dL_law_327 (fun v adR ctR H locs hp hW hS => ?_)
  obtain ⟨bb, th, sm, MR, rfl, hmR, hlR2, hfl, f100, hspR⟩ := hp
  rw [← f100, ← (hfl 1 (by omega)).1, ← (hfl 90 (by omega)).1, ← (hfl 91 (by omega)).1] at hL
  refine k_dst hx hb hL (i := 7) (by decide) dL_law_330 (fun ls hL => ?_)
  replace hL := hL.nrm (l' := [some _, some _, some _, some _, some _, some _, some _, some _, none, none]) rfl
  refine lv_aload_n hx hb dL_law_332 rfl (hL.at 2 rfl) ?_
  refine k_callV (q := (RX11, TX11, 13)) hx hb hml hown hts hK hI hS hW hL.1 (hmR) rfl (r_thrown G hmR) (m5 (gT_in q912 rfl) (gT_in q913 rfl) (gT_in q914 rfl) (gT_in q57 rfl) (gT_in q915 rfl)) rfl (show kpar yX11_thrown 0 from ⟨by decide, by decide, by decide +kernel⟩) (by first | exact ⟨by decide, by decide⟩ | exact ⟨Nat.le_of_ble_eq_true rfl, Nat.le_of_ble_eq_true rfl⟩) (by show _ ≤ 601024; omega) (by show _ ≤ 7293034; omega) rfl (by decide) dL_law_333 (fun v adT ctT H locs hp hW hS => ?_)
  obtain ⟨rfl, h1, h2⟩ := hp
  rw [h1, h2] at hW
  have hu := hok.1 _ _ _ _ _ _ hsp hspR
  refine lv_iload hx hb dL_law_336 (hL.at 6 rfl) ?_
  refine lv_icmp_eq (tgt := 343) hx hb dL_law_338 (by decide) (fun c338 => ?_) (fun c338 => ?_)
  · try dsimp only at c338
    
    refine lv_iload hx hb dL_law_343 (hL.at 6 rfl) ?_
    refine lv_if_ne (tgt := 380) hx hb dL_law_345 (by decide) (fun c345 => ?_) (fun c345 => ?_)
    · try dsimp only at c345
      refine lv_goto (tgt := 2221) hx hb dL_law_380 (by decide) ?_
      exact W.widen (by omega) (by omega) (kk MR adR ctR H locs ls (lI_end hlC hu.2.2 hfl hlR2 (hok.2 _ _ _ hspR) (e0.trans h0.2.2.2.2.2.1) hou) hW hS (hL.le (by repeat (first | exact kle_nil | refine kle_same ?_ | refine kle_drop ?_))))
    · try dsimp only at c345
      refine lv_aload hx hb dL_law_348 (hL.at 4 rfl) ?_
      refine lv_iconst (v := 0) hx hb dL_law_350 (by decide) ?_
      refine k_dald hx hb hK hW ((hfl 91 (by omega)).2.trans hou.2) 0 (by omega) (by omega) rfl dL_law_351 ?_
      rw [hk0 c345, hu.2.1 c345]
      refine lv_dload hx hb dL_law_352 (hL.at 7 rfl) ?_
      refine lv_dcmp hx hb dL_law_354 ?_
      refine lv_if_eq (tgt := 380) hx hb dL_law_355 (by decide) (fun c355 => ?_) (fun c355 => ?_)
      · rw [cl_eq] at c355
        
        refine lv_goto (tgt := 2221) hx hb dL_law_380 (by decide) ?_
        exact W.widen (by omega) (by omega) (kk MR adR ctR H locs ls (lI_end hlC hu.2.2 hfl hlR2 (hok.2 _ _ _ hspR) (e0.trans h0.2.2.2.2.2.1) hou) hW hS (hL.le (by repeat (first | exact kle_nil | refine kle_same ?_ | refine kle_drop ?_))))
      · rw [cl_eq] at c355
        
        refine lv_aload hx hb dL_law_358 (hL.at 4 rfl) ?_
        refine lv_iconst (v := 0) hx hb dL_law_360 (by decide) ?_
        refine k_dald hx hb hK hW ((hfl 91 (by omega)).2.trans hou.2) 0 (by omega) (by omega) rfl dL_law_361 ?_
        rw [hk0 c345, hu.2.1 c345]
        refine lv_aload hx hb dL_law_362 (hL.at 4 rfl) ?_
        refine lv_iconst (v := 0) hx hb dL_law_364 (by decide) ?_
        refine k_dald hx hb hK hW ((hfl 91 (by omega)).2.trans hou.2) 0 (by omega) (by omega) rfl dL_law_365 ?_
        rw [hk0 c345, hu.2.1 c345]
        refine lv_dcmp hx hb dL_law_366 ?_
        refine lv_if_eq (tgt := 378) hx hb dL_law_367 (by decide) (fun c367 => ?_) (fun c367 => ?_)
        · rw [cl_eq] at c367
          exact absurd c367 c355
        · rw [cl_eq] at c367
          
          refine lv_dload hx hb dL_law_370 (hL.at 7 rfl) ?_
          refine lv_dload hx hb dL_law_372 (hL.at 7 rfl) ?_
          refine lv_dcmp hx hb dL_law_374 ?_
          refine lv_if_ne (tgt := 380) hx hb dL_law_375 (by decide) (fun c375 => ?_) (fun c375 => ?_)
          · rw [cl_eq] at c375
            
            refine lv_goto (tgt := 2221) hx hb dL_law_380 (by decide) ?_
            exact W.widen (by omega) (by omega) (kk MR adR ctR H locs ls (lI_end hlC hu.2.2 hfl hlR2 (hok.2 _ _ _ hspR) (e0.trans h0.2.2.2.2.2.1) hou) hW hS (hL.le (by repeat (first | exact kle_nil | refine kle_same ?_ | refine kle_drop ?_))))
          · rw [cl_eq] at c375
            exact absurd (by first | exact c375 | exact Decidable.not_not.mp c375) c355
  · try dsimp only at c338
    exact absurd hu.1.symm c338

set_option maxHeartbeats 4000000 in
set_option maxRecDepth 100000 in
theorem L_person {l : Launch} {D : va_G} {cy : Nat → ClassId} {sad : Nat → Nat} {em : Nat} {s0 : State} {a0 : Array Value} (G : kG kSTR l D cy sad em s0 a0) {p : Program} {e : Env} {s : State} {m : MethodId} {args : Array Value} {below : List Frame} {meth : Method} {c : Code} {H : Heap} {locs : List Loc} {cells slots : Nat} {Q : State → Prop} {ls : Array Slot} {b L : Nat} {xs : Nat → Int32} {nb : Nat} {M : tM} {ad : Nat → Nat} {ct : Nat → Option va_E}
    (hx : p.tables.exec = Jvm.exec) (hb : c.code = cL_law) (hml : c.maxLocals = 10) (hown : s.vm.findClass "TailorBenchLaw" = some m.cls) (hts : ∀ w ∈ gT, w.before args s = true) (hq : ∀ w ∈ lw_tbl, kgood w = true → w.before args s = true) (hK : va_K D vwCl (ktys cy) s) (hI : kI s0 s) (hX : va_X b L xs s s.heap) (hbl : b < s.heap.size) (hbA : ¬ kA s0 b) (hnb : 7 * nb + 7 ≤ L) (hL3 : L ≤ 3584) (h0 : lI cy em nb M ad ct) (hW : kW D s0.heap.size ad ct H) (hS : va_S (kA s0) s.heap H locs) (hL : lvP ls 10 [some (.ref b), some (.ref (ad 1)), some (.ref (ad 100)), some (.ref (ad 90)), some (.ref (ad 91)), some (.int (nI (7 * nb))), none, none, none, none]) (hcl : cells + 900 ≤ 601024) (hsl : slots + 13100 ≤ 7293034)
    {sp : Int32 → Int32 → tM → Prop} (hok : spOk nb sp)
    (hC : KM l yL_person [.codeWith yL_person method_5_code 7 (some .int) [(0, 14, 17, 13), (0, 14, 21, 15)]] 7 114 2 12 [.ref (ad 1), .int (xs (7 * nb + 1)), .int (xs (7 * nb + 2)), .int (xs (7 * nb + 3)), .int (xs (7 * nb + 4)), .ref (ad 90)] D s0 ad ct (oCi cy ad M sp))
    (hR : ∀ (adC : Nat → Nat) (ctC : Nat → Option va_E), lR cy adC ctC M → adC 0 = em → KM l yX11_person [.code yX11_person prog_10_method_9_code 10 (some .int)] 6 170 2 14 [.ref (adC 100), .int (xs (7 * nb + 1)), .int (xs (7 * nb + 2)), .int (xs (7 * nb + 3)), .int (xs (7 * nb + 4))] D s0 adC ctC (oRi cy adC ctC sp))
    (kk : ∀ (M' : tM) (ad' : Nat → Nat) (ct' : Nat → Option va_E) (H' : Heap) (locs' : List Loc) (ls' : Array Slot), lI cy em (nb + 1) M' ad' ct' → kW D s0.heap.size ad' ct' H' → va_S (kA s0) s.heap H' locs' → lvP ls' 10 [some (.ref b), some (.ref (ad' 1)), some (.ref (ad' 100)), some (.ref (ad' 90)), some (.ref (ad' 91)), some (.int (nI (7 * nb))), none, none, none, none] → W p l e room_1 s m args below meth c H' locs' (cells + 900) (slots + 13100) Q (F0 m 2221 ls' [])) :
    W p l e room_1 s m args below meth c H locs cells slots Q (F0 m 383 ls []) := by
  refine lv_aload_n hx hb dL_law_383 rfl (hL.at 1 rfl) ?_
  refine lv_aload_n hx hb dL_law_384 rfl (hL.at 0 rfl) ?_
  refine lv_iload hx hb dL_law_385 (hL.at 5 rfl) ?_
  refine lv_iconst (v := 1) hx hb dL_law_387 (by decide) ?_
  refine lv_iadd hx hb dL_law_388 ?_
  refine k_sld hx hb hX hbl hbA hS (k := 1) rfl (by omega) hL3 dL_law_389 ?_
  refine lv_aload_n hx hb dL_law_390 rfl (hL.at 0 rfl) ?_
  refine lv_iload hx hb dL_law_391 (hL.at 5 rfl) ?_
  refine lv_iconst (v := 2) hx hb dL_law_393 (by decide) ?_
  refine lv_iadd hx hb dL_law_394 ?_
  refine k_sld hx hb hX hbl hbA hS (k := 2) rfl (by omega) hL3 dL_law_395 ?_
  refine lv_aload_n hx hb dL_law_396 rfl (hL.at 0 rfl) ?_
  refine lv_iload hx hb dL_law_397 (hL.at 5 rfl) ?_
  refine lv_iconst (v := 3) hx hb dL_law_399 (by decide) ?_
  refine lv_iadd hx hb dL_law_400 ?_
  refine k_sld hx hb hX hbl hbA hS (k := 3) rfl (by omega) hL3 dL_law_401 ?_
  refine lv_aload_n hx hb dL_law_402 rfl (hL.at 0 rfl) ?_
  refine lv_iload hx hb dL_law_403 (hL.at 5 rfl) ?_
  refine lv_iconst (v := 4) hx hb dL_law_405 (by decide) ?_
  refine lv_iadd hx hb dL_law_406 ?_
  refine k_sld hx hb hX hbl hbA hS (k := 4) rfl (by omega) hL3 dL_law_407 ?_
  refine lv_aload_n hx hb dL_law_408 rfl (hL.at 3 rfl) ?_
  refine k_callSH hx hb hml hown hts hI hS hW hL.1 hC (m4 (gT_in q507 rfl) (gT_in q508 rfl) (gT_in q54 rfl) (gT_in q509 rfl)) (show kpar yL_person 6 from ⟨by decide, by decide, by decide +kernel⟩) (by first | exact ⟨by decide, by decide⟩ | exact ⟨Nat.le_of_ble_eq_true rfl, Nat.le_of_ble_eq_true rfl⟩) (by show _ ≤ 601024; omega) (by show _ ≤ 7293034; omega) rfl (by decide) dL_law_409 (fun v adC ctC H locs hp hW hS => ?_)
  obtain ⟨kc, a, MC, fo, fd, rfl, hlC, hlR, ⟨e0, e1, e100, e90, e91⟩, hou, hk0, hsp⟩ := hp
  rw [← e1, ← e100, ← e90, ← e91] at hL
  obtain ⟨⟨th0, sm0, hm100⟩, -⟩ := id hlR
  refine k_ist hx hb hL (i := 6) (by decide) dL_law_412 (fun ls hL => ?_)
  replace hL := hL.nrm (l' := [some _, some _, some _, some _, some _, some _, some _, none, none, none]) rfl
  refine lv_aload_n hx hb dL_law_414 rfl (hL.at 2 rfl) ?_
  refine lv_aload_n hx hb dL_law_415 rfl (hL.at 0 rfl) ?_
  refine lv_iload hx hb dL_law_416 (hL.at 5 rfl) ?_
  refine lv_iconst (v := 1) hx hb dL_law_418 (by decide) ?_
  refine lv_iadd hx hb dL_law_419 ?_
  refine k_sld hx hb hX hbl hbA hS (k := 1) rfl (by omega) hL3 dL_law_420 ?_
  refine lv_aload_n hx hb dL_law_421 rfl (hL.at 0 rfl) ?_
  refine lv_iload hx hb dL_law_422 (hL.at 5 rfl) ?_
  refine lv_iconst (v := 2) hx hb dL_law_424 (by decide) ?_
  refine lv_iadd hx hb dL_law_425 ?_
  refine k_sld hx hb hX hbl hbA hS (k := 2) rfl (by omega) hL3 dL_law_426 ?_
  refine lv_aload_n hx hb dL_law_427 rfl (hL.at 0 rfl) ?_
  refine lv_iload hx hb dL_law_428 (hL.at 5 rfl) ?_
  refine lv_iconst (v := 3) hx hb dL_law_430 (by decide) ?_
  refine lv_iadd hx hb dL_law_431 ?_
  refine k_sld hx hb hX hbl hbA hS (k := 3) rfl (by omega) hL3 dL_law_432 ?_
  refine lv_aload_n hx hb dL_law_433 rfl (hL.at 0 rfl) ?_
  refine lv_iload hx hb dL_law_434 (hL.at 5 rfl) ?_
  refine lv_iconst (v := 4) hx hb dL_law_436 (by decide) ?_
  refine lv_iadd hx hb dL_law_437 ?_
  refine k_sld hx hb hX hbl hbA hS (k := 4) rfl (by omega) hL3 dL_law_438 ?_
  refine k_callV (q := (RX11, TX11, 13)) hx hb hml hown hts hK hI hS hW hL.1 (hm100) rfl (hR adC ctC hlR (e0.trans h0.2.2.2.2.2.1)) (m5 (gT_in q1048 rfl) (gT_in q1049 rfl) (gT_in q1050 rfl) (gT_in q57 rfl) (gT_in q1051 rfl)) rfl (show kpar yX11_person 4 from ⟨by decide, by decide, by decide +kernel⟩) (by first | exact ⟨by decide, by decide⟩ | exact ⟨Nat.le_of_ble_eq_true rfl, Nat.le_of_ble_eq_true rfl⟩) (by show _ ≤ 601024; omega) (by show _ ≤ 7293034; omega) rfl (by decide) dL_law_439 (fun v adR ctR H locs hp hW hS => ?_)
  obtain ⟨bb, th, sm, MR, rfl, hmR, hlR2, hfl, f100, hspR⟩ := hp
  rw [← f100, ← (hfl 1 (by omega)).1, ← (hfl 90 (by omega)).1, ← (hfl 91 (by omega)).1] at hL
  refine k_ist hx hb hL (i := 7) (by decide) dL_law_442 (fun ls hL => ?_)
  replace hL := hL.nrm (l' := [some _, some _, some _, some _, some _, some _, some _, some _, none, none]) rfl
  refine lv_aload_n hx hb dL_law_444 rfl (hL.at 2 rfl) ?_
  refine k_callV (q := (RX11, TX11, 13)) hx hb hml hown hts hK hI hS hW hL.1 (hmR) rfl (r_thrown G hmR) (m5 (gT_in q912 rfl) (gT_in q913 rfl) (gT_in q914 rfl) (gT_in q57 rfl) (gT_in q915 rfl)) rfl (show kpar yX11_thrown 0 from ⟨by decide, by decide, by decide +kernel⟩) (by first | exact ⟨by decide, by decide⟩ | exact ⟨Nat.le_of_ble_eq_true rfl, Nat.le_of_ble_eq_true rfl⟩) (by show _ ≤ 601024; omega) (by show _ ≤ 7293034; omega) rfl (by decide) dL_law_445 (fun v adT ctT H locs hp hW hS => ?_)
  obtain ⟨rfl, h1, h2⟩ := hp
  rw [h1, h2] at hW
  have hu := hok.1 _ _ _ _ _ _ hsp hspR
  refine lv_iload hx hb dL_law_448 (hL.at 6 rfl) ?_
  refine lv_icmp_eq (tgt := 455) hx hb dL_law_450 (by decide) (fun c450 => ?_) (fun c450 => ?_)
  · try dsimp only at c450
    
    refine lv_iload hx hb dL_law_455 (hL.at 6 rfl) ?_
    refine lv_if_ne (tgt := 472) hx hb dL_law_457 (by decide) (fun c457 => ?_) (fun c457 => ?_)
    · try dsimp only at c457
      refine lv_goto (tgt := 2221) hx hb dL_law_472 (by decide) ?_
      exact W.widen (by omega) (by omega) (kk MR adR ctR H locs ls (lI_end hlC hu.2.2 hfl hlR2 (hok.2 _ _ _ hspR) (e0.trans h0.2.2.2.2.2.1) hou) hW hS (hL.le (by repeat (first | exact kle_nil | refine kle_same ?_ | refine kle_drop ?_))))
    · try dsimp only at c457
      refine lv_aload_n hx hb dL_law_460 rfl (hL.at 3 rfl) ?_
      refine lv_iconst (v := 0) hx hb dL_law_461 (by decide) ?_
      refine k_lald hx hb hK hW ((hfl 90 (by omega)).2.trans hou.1) 0 (by omega) (by omega) rfl dL_law_462 ?_
      rw [hk0 c457, hu.2.1 c457]
      refine lv_iload hx hb dL_law_463 (hL.at 7 rfl) ?_
      refine lv_i2l hx hb dL_law_465 rfl ?_
      refine W.lcmp hx hb dL_law_466 ?_
      refine lv_if_eq (tgt := 472) hx hb dL_law_467 (by decide) (fun c467 => ?_) (fun c467 => ?_)
      · try dsimp only at c467
        
        refine lv_goto (tgt := 2221) hx hb dL_law_472 (by decide) ?_
        exact W.widen (by omega) (by omega) (kk MR adR ctR H locs ls (lI_end hlC hu.2.2 hfl hlR2 (hok.2 _ _ _ hspR) (e0.trans h0.2.2.2.2.2.1) hou) hW hS (hL.le (by repeat (first | exact kle_nil | refine kle_same ?_ | refine kle_drop ?_))))
      · try dsimp only at c467
        exact absurd (lg_self _) c467
  · try dsimp only at c450
    exact absurd hu.1.symm c450

set_option maxHeartbeats 4000000 in
set_option maxRecDepth 100000 in
theorem L_measure {l : Launch} {D : va_G} {cy : Nat → ClassId} {sad : Nat → Nat} {em : Nat} {s0 : State} {a0 : Array Value} (G : kG kSTR l D cy sad em s0 a0) {p : Program} {e : Env} {s : State} {m : MethodId} {args : Array Value} {below : List Frame} {meth : Method} {c : Code} {H : Heap} {locs : List Loc} {cells slots : Nat} {Q : State → Prop} {ls : Array Slot} {b L : Nat} {xs : Nat → Int32} {nb : Nat} {M : tM} {ad : Nat → Nat} {ct : Nat → Option va_E}
    (hx : p.tables.exec = Jvm.exec) (hb : c.code = cL_law) (hml : c.maxLocals = 10) (hown : s.vm.findClass "TailorBenchLaw" = some m.cls) (hts : ∀ w ∈ gT, w.before args s = true) (hq : ∀ w ∈ lw_tbl, kgood w = true → w.before args s = true) (hK : va_K D vwCl (ktys cy) s) (hI : kI s0 s) (hX : va_X b L xs s s.heap) (hbl : b < s.heap.size) (hbA : ¬ kA s0 b) (hnb : 7 * nb + 7 ≤ L) (hL3 : L ≤ 3584) (h0 : lI cy em nb M ad ct) (hW : kW D s0.heap.size ad ct H) (hS : va_S (kA s0) s.heap H locs) (hL : lvP ls 10 [some (.ref b), some (.ref (ad 1)), some (.ref (ad 100)), some (.ref (ad 90)), some (.ref (ad 91)), some (.int (nI (7 * nb))), none, none, none, none]) (hcl : cells + 900 ≤ 601024) (hsl : slots + 13100 ≤ 7293034)
    {sp : Int32 → Int32 → tM → Prop} (hok : spOk nb sp)
    (hC : KM l yL_measure [.codeWith yL_measure method_6_code 6 (some .int) [(0, 12, 15, 21), (0, 12, 19, 13)]] 8 145 2 12 [.ref (ad 1), .int (xs (7 * nb + 1)), .int (xs (7 * nb + 2)), .int (xs (7 * nb + 3)), .ref (ad 90)] D s0 ad ct (oCi cy ad M sp))
    (hR : ∀ (adC : Nat → Nat) (ctC : Nat → Option va_E), lR cy adC ctC M → adC 0 = em → KM l yX11_measure [.code yX11_measure prog_10_method_11_code 5 (some .int)] 4 120 0 0 [.ref (adC 100), .int (xs (7 * nb + 1)), .int (xs (7 * nb + 2)), .int (xs (7 * nb + 3))] D s0 adC ctC (oRi cy adC ctC sp))
    (kk : ∀ (M' : tM) (ad' : Nat → Nat) (ct' : Nat → Option va_E) (H' : Heap) (locs' : List Loc) (ls' : Array Slot), lI cy em (nb + 1) M' ad' ct' → kW D s0.heap.size ad' ct' H' → va_S (kA s0) s.heap H' locs' → lvP ls' 10 [some (.ref b), some (.ref (ad' 1)), some (.ref (ad' 100)), some (.ref (ad' 90)), some (.ref (ad' 91)), some (.int (nI (7 * nb))), none, none, none, none] → W p l e room_1 s m args below meth c H' locs' (cells + 900) (slots + 13100) Q (F0 m 2221 ls' [])) :
    W p l e room_1 s m args below meth c H locs cells slots Q (F0 m 475 ls []) := by
  refine lv_aload_n hx hb dL_law_475 rfl (hL.at 1 rfl) ?_
  refine lv_aload_n hx hb dL_law_476 rfl (hL.at 0 rfl) ?_
  refine lv_iload hx hb dL_law_477 (hL.at 5 rfl) ?_
  refine lv_iconst (v := 1) hx hb dL_law_479 (by decide) ?_
  refine lv_iadd hx hb dL_law_480 ?_
  refine k_sld hx hb hX hbl hbA hS (k := 1) rfl (by omega) hL3 dL_law_481 ?_
  refine lv_aload_n hx hb dL_law_482 rfl (hL.at 0 rfl) ?_
  refine lv_iload hx hb dL_law_483 (hL.at 5 rfl) ?_
  refine lv_iconst (v := 2) hx hb dL_law_485 (by decide) ?_
  refine lv_iadd hx hb dL_law_486 ?_
  refine k_sld hx hb hX hbl hbA hS (k := 2) rfl (by omega) hL3 dL_law_487 ?_
  refine lv_aload_n hx hb dL_law_488 rfl (hL.at 0 rfl) ?_
  refine lv_iload hx hb dL_law_489 (hL.at 5 rfl) ?_
  refine lv_iconst (v := 3) hx hb dL_law_491 (by decide) ?_
  refine lv_iadd hx hb dL_law_492 ?_
  refine k_sld hx hb hX hbl hbA hS (k := 3) rfl (by omega) hL3 dL_law_493 ?_
  refine lv_aload_n hx hb dL_law_494 rfl (hL.at 3 rfl) ?_
  refine k_callSH hx hb hml hown hts hI hS hW hL.1 hC (m4 (gT_in q540 rfl) (gT_in q541 rfl) (gT_in q54 rfl) (gT_in q542 rfl)) (show kpar yL_measure 5 from ⟨by decide, by decide, by decide +kernel⟩) (by first | exact ⟨by decide, by decide⟩ | exact ⟨Nat.le_of_ble_eq_true rfl, Nat.le_of_ble_eq_true rfl⟩) (by show _ ≤ 601024; omega) (by show _ ≤ 7293034; omega) rfl (by decide) dL_law_495 (fun v adC ctC H locs hp hW hS => ?_)
  obtain ⟨kc, a, MC, fo, fd, rfl, hlC, hlR, ⟨e0, e1, e100, e90, e91⟩, hou, hk0, hsp⟩ := hp
  rw [← e1, ← e100, ← e90, ← e91] at hL
  obtain ⟨⟨th0, sm0, hm100⟩, -⟩ := id hlR
  refine k_ist hx hb hL (i := 6) (by decide) dL_law_498 (fun ls hL => ?_)
  replace hL := hL.nrm (l' := [some _, some _, some _, some _, some _, some _, some _, none, none, none]) rfl
  refine lv_aload_n hx hb dL_law_500 rfl (hL.at 2 rfl) ?_
  refine lv_aload_n hx hb dL_law_501 rfl (hL.at 0 rfl) ?_
  refine lv_iload hx hb dL_law_502 (hL.at 5 rfl) ?_
  refine lv_iconst (v := 1) hx hb dL_law_504 (by decide) ?_
  refine lv_iadd hx hb dL_law_505 ?_
  refine k_sld hx hb hX hbl hbA hS (k := 1) rfl (by omega) hL3 dL_law_506 ?_
  refine lv_aload_n hx hb dL_law_507 rfl (hL.at 0 rfl) ?_
  refine lv_iload hx hb dL_law_508 (hL.at 5 rfl) ?_
  refine lv_iconst (v := 2) hx hb dL_law_510 (by decide) ?_
  refine lv_iadd hx hb dL_law_511 ?_
  refine k_sld hx hb hX hbl hbA hS (k := 2) rfl (by omega) hL3 dL_law_512 ?_
  refine lv_aload_n hx hb dL_law_513 rfl (hL.at 0 rfl) ?_
  refine lv_iload hx hb dL_law_514 (hL.at 5 rfl) ?_
  refine lv_iconst (v := 3) hx hb dL_law_516 (by decide) ?_
  refine lv_iadd hx hb dL_law_517 ?_
  refine k_sld hx hb hX hbl hbA hS (k := 3) rfl (by omega) hL3 dL_law_518 ?_
  refine k_callV (q := (RX11, TX11, 13)) hx hb hml hown hts hK hI hS hW hL.1 (hm100) rfl (hR adC ctC hlR (e0.trans h0.2.2.2.2.2.1)) (m5 (gT_in q1053 rfl) (gT_in q1054 rfl) (gT_in q1055 rfl) (gT_in q57 rfl) (gT_in q1056 rfl)) rfl (show kpar yX11_measure 3 from ⟨by decide, by decide, by decide +kernel⟩) (by first | exact ⟨by decide, by decide⟩ | exact ⟨Nat.le_of_ble_eq_true rfl, Nat.le_of_ble_eq_true rfl⟩) (by show _ ≤ 601024; omega) (by show _ ≤ 7293034; omega) rfl (by decide) dL_law_519 (fun v adR ctR H locs hp hW hS => ?_)
  obtain ⟨bb, th, sm, MR, rfl, hmR, hlR2, hfl, f100, hspR⟩ := hp
  rw [← f100, ← (hfl 1 (by omega)).1, ← (hfl 90 (by omega)).1, ← (hfl 91 (by omega)).1] at hL
  refine k_ist hx hb hL (i := 7) (by decide) dL_law_522 (fun ls hL => ?_)
  replace hL := hL.nrm (l' := [some _, some _, some _, some _, some _, some _, some _, some _, none, none]) rfl
  refine lv_aload_n hx hb dL_law_524 rfl (hL.at 2 rfl) ?_
  refine k_callV (q := (RX11, TX11, 13)) hx hb hml hown hts hK hI hS hW hL.1 (hmR) rfl (r_thrown G hmR) (m5 (gT_in q912 rfl) (gT_in q913 rfl) (gT_in q914 rfl) (gT_in q57 rfl) (gT_in q915 rfl)) rfl (show kpar yX11_thrown 0 from ⟨by decide, by decide, by decide +kernel⟩) (by first | exact ⟨by decide, by decide⟩ | exact ⟨Nat.le_of_ble_eq_true rfl, Nat.le_of_ble_eq_true rfl⟩) (by show _ ≤ 601024; omega) (by show _ ≤ 7293034; omega) rfl (by decide) dL_law_525 (fun v adT ctT H locs hp hW hS => ?_)
  obtain ⟨rfl, h1, h2⟩ := hp
  rw [h1, h2] at hW
  have hu := hok.1 _ _ _ _ _ _ hsp hspR
  refine lv_iload hx hb dL_law_528 (hL.at 6 rfl) ?_
  refine lv_icmp_eq (tgt := 535) hx hb dL_law_530 (by decide) (fun c530 => ?_) (fun c530 => ?_)
  · try dsimp only at c530
    
    refine lv_iload hx hb dL_law_535 (hL.at 6 rfl) ?_
    refine lv_if_ne (tgt := 552) hx hb dL_law_537 (by decide) (fun c537 => ?_) (fun c537 => ?_)
    · try dsimp only at c537
      refine lv_goto (tgt := 2221) hx hb dL_law_552 (by decide) ?_
      exact W.widen (by omega) (by omega) (kk MR adR ctR H locs ls (lI_end hlC hu.2.2 hfl hlR2 (hok.2 _ _ _ hspR) (e0.trans h0.2.2.2.2.2.1) hou) hW hS (hL.le (by repeat (first | exact kle_nil | refine kle_same ?_ | refine kle_drop ?_))))
    · try dsimp only at c537
      refine lv_aload_n hx hb dL_law_540 rfl (hL.at 3 rfl) ?_
      refine lv_iconst (v := 0) hx hb dL_law_541 (by decide) ?_
      refine k_lald hx hb hK hW ((hfl 90 (by omega)).2.trans hou.1) 0 (by omega) (by omega) rfl dL_law_542 ?_
      rw [hk0 c537, hu.2.1 c537]
      refine lv_iload hx hb dL_law_543 (hL.at 7 rfl) ?_
      refine lv_i2l hx hb dL_law_545 rfl ?_
      refine W.lcmp hx hb dL_law_546 ?_
      refine lv_if_eq (tgt := 552) hx hb dL_law_547 (by decide) (fun c547 => ?_) (fun c547 => ?_)
      · try dsimp only at c547
        
        refine lv_goto (tgt := 2221) hx hb dL_law_552 (by decide) ?_
        exact W.widen (by omega) (by omega) (kk MR adR ctR H locs ls (lI_end hlC hu.2.2 hfl hlR2 (hok.2 _ _ _ hspR) (e0.trans h0.2.2.2.2.2.1) hou) hW hS (hL.le (by repeat (first | exact kle_nil | refine kle_same ?_ | refine kle_drop ?_))))
      · try dsimp only at c547
        exact absurd (lg_self _) c547
  · try dsimp only at c530
    exact absurd hu.1.symm c530

set_option maxHeartbeats 4000000 in
set_option maxRecDepth 100000 in
theorem L_style {l : Launch} {D : va_G} {cy : Nat → ClassId} {sad : Nat → Nat} {em : Nat} {s0 : State} {a0 : Array Value} (G : kG kSTR l D cy sad em s0 a0) {p : Program} {e : Env} {s : State} {m : MethodId} {args : Array Value} {below : List Frame} {meth : Method} {c : Code} {H : Heap} {locs : List Loc} {cells slots : Nat} {Q : State → Prop} {ls : Array Slot} {b L : Nat} {xs : Nat → Int32} {nb : Nat} {M : tM} {ad : Nat → Nat} {ct : Nat → Option va_E}
    (hx : p.tables.exec = Jvm.exec) (hb : c.code = cL_law) (hml : c.maxLocals = 10) (hown : s.vm.findClass "TailorBenchLaw" = some m.cls) (hts : ∀ w ∈ gT, w.before args s = true) (hq : ∀ w ∈ lw_tbl, kgood w = true → w.before args s = true) (hK : va_K D vwCl (ktys cy) s) (hI : kI s0 s) (hX : va_X b L xs s s.heap) (hbl : b < s.heap.size) (hbA : ¬ kA s0 b) (hnb : 7 * nb + 7 ≤ L) (hL3 : L ≤ 3584) (h0 : lI cy em nb M ad ct) (hW : kW D s0.heap.size ad ct H) (hS : va_S (kA s0) s.heap H locs) (hL : lvP ls 10 [some (.ref b), some (.ref (ad 1)), some (.ref (ad 100)), some (.ref (ad 90)), some (.ref (ad 91)), some (.int (nI (7 * nb))), none, none, none, none]) (hcl : cells + 900 ≤ 601024) (hsl : slots + 13100 ≤ 7293034)
    {sp : Int32 → Int32 → tM → Prop} (hok : spOk nb sp)
    (hC : KM l yL_style [.codeWith yL_style method_7_code 3 (some .int) [(0, 8, 11, 15)]] 7 110 2 12 [.ref (ad 1), .ref (ad 90)] D s0 ad ct (oCi cy ad M sp))
    (hR : ∀ (adC : Nat → Nat) (ctC : Nat → Option va_E), lR cy adC ctC M → adC 0 = em → KM l yX11_style [.code yX11_style prog_10_method_12_code 1 (some .int)] 6 170 2 13 [.ref (adC 100)] D s0 adC ctC (oRi cy adC ctC sp))
    (kk : ∀ (M' : tM) (ad' : Nat → Nat) (ct' : Nat → Option va_E) (H' : Heap) (locs' : List Loc) (ls' : Array Slot), lI cy em (nb + 1) M' ad' ct' → kW D s0.heap.size ad' ct' H' → va_S (kA s0) s.heap H' locs' → lvP ls' 10 [some (.ref b), some (.ref (ad' 1)), some (.ref (ad' 100)), some (.ref (ad' 90)), some (.ref (ad' 91)), some (.int (nI (7 * nb))), none, none, none, none] → W p l e room_1 s m args below meth c H' locs' (cells + 900) (slots + 13100) Q (F0 m 2221 ls' [])) :
    W p l e room_1 s m args below meth c H locs cells slots Q (F0 m 555 ls []) := by
  refine lv_aload_n hx hb dL_law_555 rfl (hL.at 1 rfl) ?_
  refine lv_aload_n hx hb dL_law_556 rfl (hL.at 3 rfl) ?_
  refine k_callSH hx hb hml hown hts hI hS hW hL.1 hC (m4 (gT_in q558 rfl) (gT_in q559 rfl) (gT_in q54 rfl) (gT_in q560 rfl)) (show kpar yL_style 2 from ⟨by decide, by decide, by decide +kernel⟩) (by first | exact ⟨by decide, by decide⟩ | exact ⟨Nat.le_of_ble_eq_true rfl, Nat.le_of_ble_eq_true rfl⟩) (by show _ ≤ 601024; omega) (by show _ ≤ 7293034; omega) rfl (by decide) dL_law_557 (fun v adC ctC H locs hp hW hS => ?_)
  obtain ⟨kc, a, MC, fo, fd, rfl, hlC, hlR, ⟨e0, e1, e100, e90, e91⟩, hou, hk0, hsp⟩ := hp
  rw [← e1, ← e100, ← e90, ← e91] at hL
  obtain ⟨⟨th0, sm0, hm100⟩, -⟩ := id hlR
  refine k_ist hx hb hL (i := 6) (by decide) dL_law_560 (fun ls hL => ?_)
  replace hL := hL.nrm (l' := [some _, some _, some _, some _, some _, some _, some _, none, none, none]) rfl
  refine lv_aload_n hx hb dL_law_562 rfl (hL.at 2 rfl) ?_
  refine k_callV (q := (RX11, TX11, 13)) hx hb hml hown hts hK hI hS hW hL.1 (hm100) rfl (hR adC ctC hlR (e0.trans h0.2.2.2.2.2.1)) (m5 (gT_in q1062 rfl) (gT_in q1063 rfl) (gT_in q1064 rfl) (gT_in q57 rfl) (gT_in q1065 rfl)) rfl (show kpar yX11_style 0 from ⟨by decide, by decide, by decide +kernel⟩) (by first | exact ⟨by decide, by decide⟩ | exact ⟨Nat.le_of_ble_eq_true rfl, Nat.le_of_ble_eq_true rfl⟩) (by show _ ≤ 601024; omega) (by show _ ≤ 7293034; omega) rfl (by decide) dL_law_563 (fun v adR ctR H locs hp hW hS => ?_)
  obtain ⟨bb, th, sm, MR, rfl, hmR, hlR2, hfl, f100, hspR⟩ := hp
  rw [← f100, ← (hfl 1 (by omega)).1, ← (hfl 90 (by omega)).1, ← (hfl 91 (by omega)).1] at hL
  refine k_ist hx hb hL (i := 7) (by decide) dL_law_566 (fun ls hL => ?_)
  replace hL := hL.nrm (l' := [some _, some _, some _, some _, some _, some _, some _, some _, none, none]) rfl
  refine lv_aload_n hx hb dL_law_568 rfl (hL.at 2 rfl) ?_
  refine k_callV (q := (RX11, TX11, 13)) hx hb hml hown hts hK hI hS hW hL.1 (hmR) rfl (r_thrown G hmR) (m5 (gT_in q912 rfl) (gT_in q913 rfl) (gT_in q914 rfl) (gT_in q57 rfl) (gT_in q915 rfl)) rfl (show kpar yX11_thrown 0 from ⟨by decide, by decide, by decide +kernel⟩) (by first | exact ⟨by decide, by decide⟩ | exact ⟨Nat.le_of_ble_eq_true rfl, Nat.le_of_ble_eq_true rfl⟩) (by show _ ≤ 601024; omega) (by show _ ≤ 7293034; omega) rfl (by decide) dL_law_569 (fun v adT ctT H locs hp hW hS => ?_)
  obtain ⟨rfl, h1, h2⟩ := hp
  rw [h1, h2] at hW
  have hu := hok.1 _ _ _ _ _ _ hsp hspR
  refine lv_iload hx hb dL_law_572 (hL.at 6 rfl) ?_
  refine lv_icmp_eq (tgt := 579) hx hb dL_law_574 (by decide) (fun c574 => ?_) (fun c574 => ?_)
  · try dsimp only at c574
    
    refine lv_iload hx hb dL_law_579 (hL.at 6 rfl) ?_
    refine lv_if_ne (tgt := 596) hx hb dL_law_581 (by decide) (fun c581 => ?_) (fun c581 => ?_)
    · try dsimp only at c581
      refine lv_goto (tgt := 2221) hx hb dL_law_596 (by decide) ?_
      exact W.widen (by omega) (by omega) (kk MR adR ctR H locs ls (lI_end hlC hu.2.2 hfl hlR2 (hok.2 _ _ _ hspR) (e0.trans h0.2.2.2.2.2.1) hou) hW hS (hL.le (by repeat (first | exact kle_nil | refine kle_same ?_ | refine kle_drop ?_))))
    · try dsimp only at c581
      refine lv_aload_n hx hb dL_law_584 rfl (hL.at 3 rfl) ?_
      refine lv_iconst (v := 0) hx hb dL_law_585 (by decide) ?_
      refine k_lald hx hb hK hW ((hfl 90 (by omega)).2.trans hou.1) 0 (by omega) (by omega) rfl dL_law_586 ?_
      rw [hk0 c581, hu.2.1 c581]
      refine lv_iload hx hb dL_law_587 (hL.at 7 rfl) ?_
      refine lv_i2l hx hb dL_law_589 rfl ?_
      refine W.lcmp hx hb dL_law_590 ?_
      refine lv_if_eq (tgt := 596) hx hb dL_law_591 (by decide) (fun c591 => ?_) (fun c591 => ?_)
      · try dsimp only at c591
        
        refine lv_goto (tgt := 2221) hx hb dL_law_596 (by decide) ?_
        exact W.widen (by omega) (by omega) (kk MR adR ctR H locs ls (lI_end hlC hu.2.2 hfl hlR2 (hok.2 _ _ _ hspR) (e0.trans h0.2.2.2.2.2.1) hou) hW hS (hL.le (by repeat (first | exact kle_nil | refine kle_same ?_ | refine kle_drop ?_))))
      · try dsimp only at c591
        exact absurd (lg_self _) c591
  · try dsimp only at c574
    exact absurd hu.1.symm c574

set_option maxHeartbeats 4000000 in
set_option maxRecDepth 100000 in
theorem L_piece {l : Launch} {D : va_G} {cy : Nat → ClassId} {sad : Nat → Nat} {em : Nat} {s0 : State} {a0 : Array Value} (G : kG kSTR l D cy sad em s0 a0) {p : Program} {e : Env} {s : State} {m : MethodId} {args : Array Value} {below : List Frame} {meth : Method} {c : Code} {H : Heap} {locs : List Loc} {cells slots : Nat} {Q : State → Prop} {ls : Array Slot} {b L : Nat} {xs : Nat → Int32} {nb : Nat} {M : tM} {ad : Nat → Nat} {ct : Nat → Option va_E}
    (hx : p.tables.exec = Jvm.exec) (hb : c.code = cL_law) (hml : c.maxLocals = 10) (hown : s.vm.findClass "TailorBenchLaw" = some m.cls) (hts : ∀ w ∈ gT, w.before args s = true) (hq : ∀ w ∈ lw_tbl, kgood w = true → w.before args s = true) (hK : va_K D vwCl (ktys cy) s) (hI : kI s0 s) (hX : va_X b L xs s s.heap) (hbl : b < s.heap.size) (hbA : ¬ kA s0 b) (hnb : 7 * nb + 7 ≤ L) (hL3 : L ≤ 3584) (h0 : lI cy em nb M ad ct) (hW : kW D s0.heap.size ad ct H) (hS : va_S (kA s0) s.heap H locs) (hL : lvP ls 10 [some (.ref b), some (.ref (ad 1)), some (.ref (ad 100)), some (.ref (ad 90)), some (.ref (ad 91)), some (.int (nI (7 * nb))), none, none, none, none]) (hcl : cells + 900 ≤ 601024) (hsl : slots + 13100 ≤ 7293034)
    {sp : Int32 → Int32 → tM → Prop} (hok : spOk nb sp)
    (hC : KM l yL_piece [.codeWith yL_piece method_8_code 8 (some .int) [(0, 16, 19, 21), (0, 16, 23, 13), (0, 16, 27, 15)]] 8 146 2 12 [.ref (ad 1), .int (xs (7 * nb + 1)), .int (xs (7 * nb + 2)), .int (xs (7 * nb + 3)), .int (xs (7 * nb + 4)), .int (xs (7 * nb + 5)), .ref (ad 90)] D s0 ad ct (oCi cy ad M sp))
    (hR : ∀ (adC : Nat → Nat) (ctC : Nat → Option va_E), lR cy adC ctC M → adC 0 = em → KM l yX11_piece [.code yX11_piece prog_10_method_15_code 10 (some .int)] 6 190 3 18 [.ref (adC 100), .int (xs (7 * nb + 1)), .int (xs (7 * nb + 2)), .int (xs (7 * nb + 3)), .int (xs (7 * nb + 4)), .int (xs (7 * nb + 5))] D s0 adC ctC (oRi cy adC ctC sp))
    (kk : ∀ (M' : tM) (ad' : Nat → Nat) (ct' : Nat → Option va_E) (H' : Heap) (locs' : List Loc) (ls' : Array Slot), lI cy em (nb + 1) M' ad' ct' → kW D s0.heap.size ad' ct' H' → va_S (kA s0) s.heap H' locs' → lvP ls' 10 [some (.ref b), some (.ref (ad' 1)), some (.ref (ad' 100)), some (.ref (ad' 90)), some (.ref (ad' 91)), some (.int (nI (7 * nb))), none, none, none, none] → W p l e room_1 s m args below meth c H' locs' (cells + 900) (slots + 13100) Q (F0 m 2221 ls' [])) :
    W p l e room_1 s m args below meth c H locs cells slots Q (F0 m 599 ls []) := by
  refine lv_aload_n hx hb dL_law_599 rfl (hL.at 1 rfl) ?_
  refine lv_aload_n hx hb dL_law_600 rfl (hL.at 0 rfl) ?_
  refine lv_iload hx hb dL_law_601 (hL.at 5 rfl) ?_
  refine lv_iconst (v := 1) hx hb dL_law_603 (by decide) ?_
  refine lv_iadd hx hb dL_law_604 ?_
  refine k_sld hx hb hX hbl hbA hS (k := 1) rfl (by omega) hL3 dL_law_605 ?_
  refine lv_aload_n hx hb dL_law_606 rfl (hL.at 0 rfl) ?_
  refine lv_iload hx hb dL_law_607 (hL.at 5 rfl) ?_
  refine lv_iconst (v := 2) hx hb dL_law_609 (by decide) ?_
  refine lv_iadd hx hb dL_law_610 ?_
  refine k_sld hx hb hX hbl hbA hS (k := 2) rfl (by omega) hL3 dL_law_611 ?_
  refine lv_aload_n hx hb dL_law_612 rfl (hL.at 0 rfl) ?_
  refine lv_iload hx hb dL_law_613 (hL.at 5 rfl) ?_
  refine lv_iconst (v := 3) hx hb dL_law_615 (by decide) ?_
  refine lv_iadd hx hb dL_law_616 ?_
  refine k_sld hx hb hX hbl hbA hS (k := 3) rfl (by omega) hL3 dL_law_617 ?_
  refine lv_aload_n hx hb dL_law_618 rfl (hL.at 0 rfl) ?_
  refine lv_iload hx hb dL_law_619 (hL.at 5 rfl) ?_
  refine lv_iconst (v := 4) hx hb dL_law_621 (by decide) ?_
  refine lv_iadd hx hb dL_law_622 ?_
  refine k_sld hx hb hX hbl hbA hS (k := 4) rfl (by omega) hL3 dL_law_623 ?_
  refine lv_aload_n hx hb dL_law_624 rfl (hL.at 0 rfl) ?_
  refine lv_iload hx hb dL_law_625 (hL.at 5 rfl) ?_
  refine lv_iconst (v := 5) hx hb dL_law_627 (by decide) ?_
  refine lv_iadd hx hb dL_law_628 ?_
  refine k_sld hx hb hX hbl hbA hS (k := 5) rfl (by omega) hL3 dL_law_629 ?_
  refine lv_aload_n hx hb dL_law_630 rfl (hL.at 3 rfl) ?_
  refine k_callSH hx hb hml hown hts hI hS hW hL.1 hC (m4 (gT_in q595 rfl) (gT_in q596 rfl) (gT_in q54 rfl) (gT_in q597 rfl)) (show kpar yL_piece 7 from ⟨by decide, by decide, by decide +kernel⟩) (by first | exact ⟨by decide, by decide⟩ | exact ⟨Nat.le_of_ble_eq_true rfl, Nat.le_of_ble_eq_true rfl⟩) (by show _ ≤ 601024; omega) (by show _ ≤ 7293034; omega) rfl (by decide) dL_law_631 (fun v adC ctC H locs hp hW hS => ?_)
  obtain ⟨kc, a, MC, fo, fd, rfl, hlC, hlR, ⟨e0, e1, e100, e90, e91⟩, hou, hk0, hsp⟩ := hp
  rw [← e1, ← e100, ← e90, ← e91] at hL
  obtain ⟨⟨th0, sm0, hm100⟩, -⟩ := id hlR
  refine k_ist hx hb hL (i := 6) (by decide) dL_law_634 (fun ls hL => ?_)
  replace hL := hL.nrm (l' := [some _, some _, some _, some _, some _, some _, some _, none, none, none]) rfl
  refine lv_aload_n hx hb dL_law_636 rfl (hL.at 2 rfl) ?_
  refine lv_aload_n hx hb dL_law_637 rfl (hL.at 0 rfl) ?_
  refine lv_iload hx hb dL_law_638 (hL.at 5 rfl) ?_
  refine lv_iconst (v := 1) hx hb dL_law_640 (by decide) ?_
  refine lv_iadd hx hb dL_law_641 ?_
  refine k_sld hx hb hX hbl hbA hS (k := 1) rfl (by omega) hL3 dL_law_642 ?_
  refine lv_aload_n hx hb dL_law_643 rfl (hL.at 0 rfl) ?_
  refine lv_iload hx hb dL_law_644 (hL.at 5 rfl) ?_
  refine lv_iconst (v := 2) hx hb dL_law_646 (by decide) ?_
  refine lv_iadd hx hb dL_law_647 ?_
  refine k_sld hx hb hX hbl hbA hS (k := 2) rfl (by omega) hL3 dL_law_648 ?_
  refine lv_aload_n hx hb dL_law_649 rfl (hL.at 0 rfl) ?_
  refine lv_iload hx hb dL_law_650 (hL.at 5 rfl) ?_
  refine lv_iconst (v := 3) hx hb dL_law_652 (by decide) ?_
  refine lv_iadd hx hb dL_law_653 ?_
  refine k_sld hx hb hX hbl hbA hS (k := 3) rfl (by omega) hL3 dL_law_654 ?_
  refine lv_aload_n hx hb dL_law_655 rfl (hL.at 0 rfl) ?_
  refine lv_iload hx hb dL_law_656 (hL.at 5 rfl) ?_
  refine lv_iconst (v := 4) hx hb dL_law_658 (by decide) ?_
  refine lv_iadd hx hb dL_law_659 ?_
  refine k_sld hx hb hX hbl hbA hS (k := 4) rfl (by omega) hL3 dL_law_660 ?_
  refine lv_aload_n hx hb dL_law_661 rfl (hL.at 0 rfl) ?_
  refine lv_iload hx hb dL_law_662 (hL.at 5 rfl) ?_
  refine lv_iconst (v := 5) hx hb dL_law_664 (by decide) ?_
  refine lv_iadd hx hb dL_law_665 ?_
  refine k_sld hx hb hX hbl hbA hS (k := 5) rfl (by omega) hL3 dL_law_666 ?_
  refine k_callV (q := (RX11, TX11, 13)) hx hb hml hown hts hK hI hS hW hL.1 (hm100) rfl (hR adC ctC hlR (e0.trans h0.2.2.2.2.2.1)) (m5 (gT_in q1066 rfl) (gT_in q1067 rfl) (gT_in q1068 rfl) (gT_in q57 rfl) (gT_in q1069 rfl)) rfl (show kpar yX11_piece 5 from ⟨by decide, by decide, by decide +kernel⟩) (by first | exact ⟨by decide, by decide⟩ | exact ⟨Nat.le_of_ble_eq_true rfl, Nat.le_of_ble_eq_true rfl⟩) (by show _ ≤ 601024; omega) (by show _ ≤ 7293034; omega) rfl (by decide) dL_law_667 (fun v adR ctR H locs hp hW hS => ?_)
  obtain ⟨bb, th, sm, MR, rfl, hmR, hlR2, hfl, f100, hspR⟩ := hp
  rw [← f100, ← (hfl 1 (by omega)).1, ← (hfl 90 (by omega)).1, ← (hfl 91 (by omega)).1] at hL
  refine k_ist hx hb hL (i := 7) (by decide) dL_law_670 (fun ls hL => ?_)
  replace hL := hL.nrm (l' := [some _, some _, some _, some _, some _, some _, some _, some _, none, none]) rfl
  refine lv_aload_n hx hb dL_law_672 rfl (hL.at 2 rfl) ?_
  refine k_callV (q := (RX11, TX11, 13)) hx hb hml hown hts hK hI hS hW hL.1 (hmR) rfl (r_thrown G hmR) (m5 (gT_in q912 rfl) (gT_in q913 rfl) (gT_in q914 rfl) (gT_in q57 rfl) (gT_in q915 rfl)) rfl (show kpar yX11_thrown 0 from ⟨by decide, by decide, by decide +kernel⟩) (by first | exact ⟨by decide, by decide⟩ | exact ⟨Nat.le_of_ble_eq_true rfl, Nat.le_of_ble_eq_true rfl⟩) (by show _ ≤ 601024; omega) (by show _ ≤ 7293034; omega) rfl (by decide) dL_law_673 (fun v adT ctT H locs hp hW hS => ?_)
  obtain ⟨rfl, h1, h2⟩ := hp
  rw [h1, h2] at hW
  have hu := hok.1 _ _ _ _ _ _ hsp hspR
  refine lv_iload hx hb dL_law_676 (hL.at 6 rfl) ?_
  refine lv_icmp_eq (tgt := 683) hx hb dL_law_678 (by decide) (fun c678 => ?_) (fun c678 => ?_)
  · try dsimp only at c678
    
    refine lv_iload hx hb dL_law_683 (hL.at 6 rfl) ?_
    refine lv_if_ne (tgt := 700) hx hb dL_law_685 (by decide) (fun c685 => ?_) (fun c685 => ?_)
    · try dsimp only at c685
      refine lv_goto (tgt := 2221) hx hb dL_law_700 (by decide) ?_
      exact W.widen (by omega) (by omega) (kk MR adR ctR H locs ls (lI_end hlC hu.2.2 hfl hlR2 (hok.2 _ _ _ hspR) (e0.trans h0.2.2.2.2.2.1) hou) hW hS (hL.le (by repeat (first | exact kle_nil | refine kle_same ?_ | refine kle_drop ?_))))
    · try dsimp only at c685
      refine lv_aload_n hx hb dL_law_688 rfl (hL.at 3 rfl) ?_
      refine lv_iconst (v := 0) hx hb dL_law_689 (by decide) ?_
      refine k_lald hx hb hK hW ((hfl 90 (by omega)).2.trans hou.1) 0 (by omega) (by omega) rfl dL_law_690 ?_
      rw [hk0 c685, hu.2.1 c685]
      refine lv_iload hx hb dL_law_691 (hL.at 7 rfl) ?_
      refine lv_i2l hx hb dL_law_693 rfl ?_
      refine W.lcmp hx hb dL_law_694 ?_
      refine lv_if_eq (tgt := 700) hx hb dL_law_695 (by decide) (fun c695 => ?_) (fun c695 => ?_)
      · try dsimp only at c695
        
        refine lv_goto (tgt := 2221) hx hb dL_law_700 (by decide) ?_
        exact W.widen (by omega) (by omega) (kk MR adR ctR H locs ls (lI_end hlC hu.2.2 hfl hlR2 (hok.2 _ _ _ hspR) (e0.trans h0.2.2.2.2.2.1) hou) hW hS (hL.le (by repeat (first | exact kle_nil | refine kle_same ?_ | refine kle_drop ?_))))
      · try dsimp only at c695
        exact absurd (lg_self _) c695
  · try dsimp only at c678
    exact absurd hu.1.symm c678

set_option maxHeartbeats 4000000 in
set_option maxRecDepth 100000 in
theorem L_hand {l : Launch} {D : va_G} {cy : Nat → ClassId} {sad : Nat → Nat} {em : Nat} {s0 : State} {a0 : Array Value} (G : kG kSTR l D cy sad em s0 a0) {p : Program} {e : Env} {s : State} {m : MethodId} {args : Array Value} {below : List Frame} {meth : Method} {c : Code} {H : Heap} {locs : List Loc} {cells slots : Nat} {Q : State → Prop} {ls : Array Slot} {b L : Nat} {xs : Nat → Int32} {nb : Nat} {M : tM} {ad : Nat → Nat} {ct : Nat → Option va_E}
    (hx : p.tables.exec = Jvm.exec) (hb : c.code = cL_law) (hml : c.maxLocals = 10) (hown : s.vm.findClass "TailorBenchLaw" = some m.cls) (hts : ∀ w ∈ gT, w.before args s = true) (hq : ∀ w ∈ lw_tbl, kgood w = true → w.before args s = true) (hK : va_K D vwCl (ktys cy) s) (hI : kI s0 s) (hX : va_X b L xs s s.heap) (hbl : b < s.heap.size) (hbA : ¬ kA s0 b) (hnb : 7 * nb + 7 ≤ L) (hL3 : L ≤ 3584) (h0 : lI cy em nb M ad ct) (hW : kW D s0.heap.size ad ct H) (hS : va_S (kA s0) s.heap H locs) (hL : lvP ls 10 [some (.ref b), some (.ref (ad 1)), some (.ref (ad 100)), some (.ref (ad 90)), some (.ref (ad 91)), some (.int (nI (7 * nb))), none, none, none, none]) (hcl : cells + 900 ≤ 601024) (hsl : slots + 13100 ≤ 7293034)
    {sp : Int32 → Int32 → tM → Prop} (hok : spOk nb sp)
    (hC : KM l yL_hand [.codeWith yL_hand method_9_code 4 (some .int) [(0, 9, 12, 13), (0, 9, 15, 15)]] 7 111 2 12 [.ref (ad 1), .int (xs (7 * nb + 1)), .ref (ad 90)] D s0 ad ct (oCi cy ad M sp))
    (hR : ∀ (adC : Nat → Nat) (ctC : Nat → Option va_E), lR cy adC ctC M → adC 0 = em → KM l yX11_hand [.code yX11_hand prog_10_method_16_code 2 (some .int)] 4 120 0 0 [.ref (adC 100), .int (xs (7 * nb + 1))] D s0 adC ctC (oRi cy adC ctC sp))
    (kk : ∀ (M' : tM) (ad' : Nat → Nat) (ct' : Nat → Option va_E) (H' : Heap) (locs' : List Loc) (ls' : Array Slot), lI cy em (nb + 1) M' ad' ct' → kW D s0.heap.size ad' ct' H' → va_S (kA s0) s.heap H' locs' → lvP ls' 10 [some (.ref b), some (.ref (ad' 1)), some (.ref (ad' 100)), some (.ref (ad' 90)), some (.ref (ad' 91)), some (.int (nI (7 * nb))), none, none, none, none] → W p l e room_1 s m args below meth c H' locs' (cells + 900) (slots + 13100) Q (F0 m 2221 ls' [])) :
    W p l e room_1 s m args below meth c H locs cells slots Q (F0 m 703 ls []) := by
  refine lv_aload_n hx hb dL_law_703 rfl (hL.at 1 rfl) ?_
  refine lv_aload_n hx hb dL_law_704 rfl (hL.at 0 rfl) ?_
  refine lv_iload hx hb dL_law_705 (hL.at 5 rfl) ?_
  refine lv_iconst (v := 1) hx hb dL_law_707 (by decide) ?_
  refine lv_iadd hx hb dL_law_708 ?_
  refine k_sld hx hb hX hbl hbA hS (k := 1) rfl (by omega) hL3 dL_law_709 ?_
  refine lv_aload_n hx hb dL_law_710 rfl (hL.at 3 rfl) ?_
  refine k_callSH hx hb hml hown hts hI hS hW hL.1 hC (m4 (gT_in q632 rfl) (gT_in q633 rfl) (gT_in q54 rfl) (gT_in q634 rfl)) (show kpar yL_hand 3 from ⟨by decide, by decide, by decide +kernel⟩) (by first | exact ⟨by decide, by decide⟩ | exact ⟨Nat.le_of_ble_eq_true rfl, Nat.le_of_ble_eq_true rfl⟩) (by show _ ≤ 601024; omega) (by show _ ≤ 7293034; omega) rfl (by decide) dL_law_711 (fun v adC ctC H locs hp hW hS => ?_)
  obtain ⟨kc, a, MC, fo, fd, rfl, hlC, hlR, ⟨e0, e1, e100, e90, e91⟩, hou, hk0, hsp⟩ := hp
  rw [← e1, ← e100, ← e90, ← e91] at hL
  obtain ⟨⟨th0, sm0, hm100⟩, -⟩ := id hlR
  refine k_ist hx hb hL (i := 6) (by decide) dL_law_714 (fun ls hL => ?_)
  replace hL := hL.nrm (l' := [some _, some _, some _, some _, some _, some _, some _, none, none, none]) rfl
  refine lv_aload_n hx hb dL_law_716 rfl (hL.at 2 rfl) ?_
  refine lv_aload_n hx hb dL_law_717 rfl (hL.at 0 rfl) ?_
  refine lv_iload hx hb dL_law_718 (hL.at 5 rfl) ?_
  refine lv_iconst (v := 1) hx hb dL_law_720 (by decide) ?_
  refine lv_iadd hx hb dL_law_721 ?_
  refine k_sld hx hb hX hbl hbA hS (k := 1) rfl (by omega) hL3 dL_law_722 ?_
  refine k_callV (q := (RX11, TX11, 13)) hx hb hml hown hts hK hI hS hW hL.1 (hm100) rfl (hR adC ctC hlR (e0.trans h0.2.2.2.2.2.1)) (m5 (gT_in q1124 rfl) (gT_in q1125 rfl) (gT_in q1126 rfl) (gT_in q57 rfl) (gT_in q1127 rfl)) rfl (show kpar yX11_hand 1 from ⟨by decide, by decide, by decide +kernel⟩) (by first | exact ⟨by decide, by decide⟩ | exact ⟨Nat.le_of_ble_eq_true rfl, Nat.le_of_ble_eq_true rfl⟩) (by show _ ≤ 601024; omega) (by show _ ≤ 7293034; omega) rfl (by decide) dL_law_723 (fun v adR ctR H locs hp hW hS => ?_)
  obtain ⟨bb, th, sm, MR, rfl, hmR, hlR2, hfl, f100, hspR⟩ := hp
  rw [← f100, ← (hfl 1 (by omega)).1, ← (hfl 90 (by omega)).1, ← (hfl 91 (by omega)).1] at hL
  refine k_ist hx hb hL (i := 7) (by decide) dL_law_726 (fun ls hL => ?_)
  replace hL := hL.nrm (l' := [some _, some _, some _, some _, some _, some _, some _, some _, none, none]) rfl
  refine lv_aload_n hx hb dL_law_728 rfl (hL.at 2 rfl) ?_
  refine k_callV (q := (RX11, TX11, 13)) hx hb hml hown hts hK hI hS hW hL.1 (hmR) rfl (r_thrown G hmR) (m5 (gT_in q912 rfl) (gT_in q913 rfl) (gT_in q914 rfl) (gT_in q57 rfl) (gT_in q915 rfl)) rfl (show kpar yX11_thrown 0 from ⟨by decide, by decide, by decide +kernel⟩) (by first | exact ⟨by decide, by decide⟩ | exact ⟨Nat.le_of_ble_eq_true rfl, Nat.le_of_ble_eq_true rfl⟩) (by show _ ≤ 601024; omega) (by show _ ≤ 7293034; omega) rfl (by decide) dL_law_729 (fun v adT ctT H locs hp hW hS => ?_)
  obtain ⟨rfl, h1, h2⟩ := hp
  rw [h1, h2] at hW
  have hu := hok.1 _ _ _ _ _ _ hsp hspR
  refine lv_iload hx hb dL_law_732 (hL.at 6 rfl) ?_
  refine lv_icmp_eq (tgt := 739) hx hb dL_law_734 (by decide) (fun c734 => ?_) (fun c734 => ?_)
  · try dsimp only at c734
    
    refine lv_iload hx hb dL_law_739 (hL.at 6 rfl) ?_
    refine lv_if_ne (tgt := 756) hx hb dL_law_741 (by decide) (fun c741 => ?_) (fun c741 => ?_)
    · try dsimp only at c741
      refine lv_goto (tgt := 2221) hx hb dL_law_756 (by decide) ?_
      exact W.widen (by omega) (by omega) (kk MR adR ctR H locs ls (lI_end hlC hu.2.2 hfl hlR2 (hok.2 _ _ _ hspR) (e0.trans h0.2.2.2.2.2.1) hou) hW hS (hL.le (by repeat (first | exact kle_nil | refine kle_same ?_ | refine kle_drop ?_))))
    · try dsimp only at c741
      refine lv_aload_n hx hb dL_law_744 rfl (hL.at 3 rfl) ?_
      refine lv_iconst (v := 0) hx hb dL_law_745 (by decide) ?_
      refine k_lald hx hb hK hW ((hfl 90 (by omega)).2.trans hou.1) 0 (by omega) (by omega) rfl dL_law_746 ?_
      rw [hk0 c741, hu.2.1 c741]
      refine lv_iload hx hb dL_law_747 (hL.at 7 rfl) ?_
      refine lv_i2l hx hb dL_law_749 rfl ?_
      refine W.lcmp hx hb dL_law_750 ?_
      refine lv_if_eq (tgt := 756) hx hb dL_law_751 (by decide) (fun c751 => ?_) (fun c751 => ?_)
      · try dsimp only at c751
        
        refine lv_goto (tgt := 2221) hx hb dL_law_756 (by decide) ?_
        exact W.widen (by omega) (by omega) (kk MR adR ctR H locs ls (lI_end hlC hu.2.2 hfl hlR2 (hok.2 _ _ _ hspR) (e0.trans h0.2.2.2.2.2.1) hou) hW hS (hL.le (by repeat (first | exact kle_nil | refine kle_same ?_ | refine kle_drop ?_))))
      · try dsimp only at c751
        exact absurd (lg_self _) c751
  · try dsimp only at c734
    exact absurd hu.1.symm c734

set_option maxHeartbeats 4000000 in
set_option maxRecDepth 100000 in
theorem L_order {l : Launch} {D : va_G} {cy : Nat → ClassId} {sad : Nat → Nat} {em : Nat} {s0 : State} {a0 : Array Value} (G : kG kSTR l D cy sad em s0 a0) {p : Program} {e : Env} {s : State} {m : MethodId} {args : Array Value} {below : List Frame} {meth : Method} {c : Code} {H : Heap} {locs : List Loc} {cells slots : Nat} {Q : State → Prop} {ls : Array Slot} {b L : Nat} {xs : Nat → Int32} {nb : Nat} {M : tM} {ad : Nat → Nat} {ct : Nat → Option va_E}
    (hx : p.tables.exec = Jvm.exec) (hb : c.code = cL_law) (hml : c.maxLocals = 10) (hown : s.vm.findClass "TailorBenchLaw" = some m.cls) (hts : ∀ w ∈ gT, w.before args s = true) (hq : ∀ w ∈ lw_tbl, kgood w = true → w.before args s = true) (hK : va_K D vwCl (ktys cy) s) (hI : kI s0 s) (hX : va_X b L xs s s.heap) (hbl : b < s.heap.size) (hbA : ¬ kA s0 b) (hnb : 7 * nb + 7 ≤ L) (hL3 : L ≤ 3584) (h0 : lI cy em nb M ad ct) (hW : kW D s0.heap.size ad ct H) (hS : va_S (kA s0) s.heap H locs) (hL : lvP ls 10 [some (.ref b), some (.ref (ad 1)), some (.ref (ad 100)), some (.ref (ad 90)), some (.ref (ad 91)), some (.int (nI (7 * nb))), none, none, none, none]) (hcl : cells + 900 ≤ 601024) (hsl : slots + 13100 ≤ 7293034)
    {sp : Int32 → Int32 → tM → Prop} (hok : spOk nb sp)
    (hC : KM l yL_order [.codeWith yL_order method_10_code 6 (some .int) [(0, 12, 15, 21), (0, 12, 19, 13), (0, 12, 23, 15)]] 8 145 4 27 [.ref (ad 1), .int (xs (7 * nb + 1)), .int (xs (7 * nb + 2)), .int (xs (7 * nb + 3)), .ref (ad 90)] D s0 ad ct (oCi cy ad M sp))
    (hR : ∀ (adC : Nat → Nat) (ctC : Nat → Option va_E), lR cy adC ctC M → adC 0 = em → KM l yX11_order [.code yX11_order prog_10_method_24_code 5 (some .int)] 6 170 3 20 [.ref (adC 100), .int (xs (7 * nb + 1)), .int (xs (7 * nb + 2)), .int (xs (7 * nb + 3))] D s0 adC ctC (oRi cy adC ctC sp))
    (kk : ∀ (M' : tM) (ad' : Nat → Nat) (ct' : Nat → Option va_E) (H' : Heap) (locs' : List Loc) (ls' : Array Slot), lI cy em (nb + 1) M' ad' ct' → kW D s0.heap.size ad' ct' H' → va_S (kA s0) s.heap H' locs' → lvP ls' 10 [some (.ref b), some (.ref (ad' 1)), some (.ref (ad' 100)), some (.ref (ad' 90)), some (.ref (ad' 91)), some (.int (nI (7 * nb))), none, none, none, none] → W p l e room_1 s m args below meth c H' locs' (cells + 900) (slots + 13100) Q (F0 m 2221 ls' [])) :
    W p l e room_1 s m args below meth c H locs cells slots Q (F0 m 759 ls []) := by
  refine lv_aload_n hx hb dL_law_759 rfl (hL.at 1 rfl) ?_
  refine lv_aload_n hx hb dL_law_760 rfl (hL.at 0 rfl) ?_
  refine lv_iload hx hb dL_law_761 (hL.at 5 rfl) ?_
  refine lv_iconst (v := 1) hx hb dL_law_763 (by decide) ?_
  refine lv_iadd hx hb dL_law_764 ?_
  refine k_sld hx hb hX hbl hbA hS (k := 1) rfl (by omega) hL3 dL_law_765 ?_
  refine lv_aload_n hx hb dL_law_766 rfl (hL.at 0 rfl) ?_
  refine lv_iload hx hb dL_law_767 (hL.at 5 rfl) ?_
  refine lv_iconst (v := 2) hx hb dL_law_769 (by decide) ?_
  refine lv_iadd hx hb dL_law_770 ?_
  refine k_sld hx hb hX hbl hbA hS (k := 2) rfl (by omega) hL3 dL_law_771 ?_
  refine lv_aload_n hx hb dL_law_772 rfl (hL.at 0 rfl) ?_
  refine lv_iload hx hb dL_law_773 (hL.at 5 rfl) ?_
  refine lv_iconst (v := 3) hx hb dL_law_775 (by decide) ?_
  refine lv_iadd hx hb dL_law_776 ?_
  refine k_sld hx hb hX hbl hbA hS (k := 3) rfl (by omega) hL3 dL_law_777 ?_
  refine lv_aload_n hx hb dL_law_778 rfl (hL.at 3 rfl) ?_
  refine k_callSH hx hb hml hown hts hI hS hW hL.1 hC (m4 (gT_in q655 rfl) (gT_in q656 rfl) (gT_in q54 rfl) (gT_in q657 rfl)) (show kpar yL_order 5 from ⟨by decide, by decide, by decide +kernel⟩) (by first | exact ⟨by decide, by decide⟩ | exact ⟨Nat.le_of_ble_eq_true rfl, Nat.le_of_ble_eq_true rfl⟩) (by show _ ≤ 601024; omega) (by show _ ≤ 7293034; omega) rfl (by decide) dL_law_779 (fun v adC ctC H locs hp hW hS => ?_)
  obtain ⟨kc, a, MC, fo, fd, rfl, hlC, hlR, ⟨e0, e1, e100, e90, e91⟩, hou, hk0, hsp⟩ := hp
  rw [← e1, ← e100, ← e90, ← e91] at hL
  obtain ⟨⟨th0, sm0, hm100⟩, -⟩ := id hlR
  refine k_ist hx hb hL (i := 6) (by decide) dL_law_782 (fun ls hL => ?_)
  replace hL := hL.nrm (l' := [some _, some _, some _, some _, some _, some _, some _, none, none, none]) rfl
  refine lv_aload_n hx hb dL_law_784 rfl (hL.at 2 rfl) ?_
  refine lv_aload_n hx hb dL_law_785 rfl (hL.at 0 rfl) ?_
  refine lv_iload hx hb dL_law_786 (hL.at 5 rfl) ?_
  refine lv_iconst (v := 1) hx hb dL_law_788 (by decide) ?_
  refine lv_iadd hx hb dL_law_789 ?_
  refine k_sld hx hb hX hbl hbA hS (k := 1) rfl (by omega) hL3 dL_law_790 ?_
  refine lv_aload_n hx hb dL_law_791 rfl (hL.at 0 rfl) ?_
  refine lv_iload hx hb dL_law_792 (hL.at 5 rfl) ?_
  refine lv_iconst (v := 2) hx hb dL_law_794 (by decide) ?_
  refine lv_iadd hx hb dL_law_795 ?_
  refine k_sld hx hb hX hbl hbA hS (k := 2) rfl (by omega) hL3 dL_law_796 ?_
  refine lv_aload_n hx hb dL_law_797 rfl (hL.at 0 rfl) ?_
  refine lv_iload hx hb dL_law_798 (hL.at 5 rfl) ?_
  refine lv_iconst (v := 3) hx hb dL_law_800 (by decide) ?_
  refine lv_iadd hx hb dL_law_801 ?_
  refine k_sld hx hb hX hbl hbA hS (k := 3) rfl (by omega) hL3 dL_law_802 ?_
  refine k_callV (q := (RX11, TX11, 13)) hx hb hml hown hts hK hI hS hW hL.1 (hm100) rfl (hR adC ctC hlR (e0.trans h0.2.2.2.2.2.1)) (m5 (gT_in q1129 rfl) (gT_in q1130 rfl) (gT_in q1131 rfl) (gT_in q57 rfl) (gT_in q1132 rfl)) rfl (show kpar yX11_order 3 from ⟨by decide, by decide, by decide +kernel⟩) (by first | exact ⟨by decide, by decide⟩ | exact ⟨Nat.le_of_ble_eq_true rfl, Nat.le_of_ble_eq_true rfl⟩) (by show _ ≤ 601024; omega) (by show _ ≤ 7293034; omega) rfl (by decide) dL_law_803 (fun v adR ctR H locs hp hW hS => ?_)
  obtain ⟨bb, th, sm, MR, rfl, hmR, hlR2, hfl, f100, hspR⟩ := hp
  rw [← f100, ← (hfl 1 (by omega)).1, ← (hfl 90 (by omega)).1, ← (hfl 91 (by omega)).1] at hL
  refine k_ist hx hb hL (i := 7) (by decide) dL_law_806 (fun ls hL => ?_)
  replace hL := hL.nrm (l' := [some _, some _, some _, some _, some _, some _, some _, some _, none, none]) rfl
  refine lv_aload_n hx hb dL_law_808 rfl (hL.at 2 rfl) ?_
  refine k_callV (q := (RX11, TX11, 13)) hx hb hml hown hts hK hI hS hW hL.1 (hmR) rfl (r_thrown G hmR) (m5 (gT_in q912 rfl) (gT_in q913 rfl) (gT_in q914 rfl) (gT_in q57 rfl) (gT_in q915 rfl)) rfl (show kpar yX11_thrown 0 from ⟨by decide, by decide, by decide +kernel⟩) (by first | exact ⟨by decide, by decide⟩ | exact ⟨Nat.le_of_ble_eq_true rfl, Nat.le_of_ble_eq_true rfl⟩) (by show _ ≤ 601024; omega) (by show _ ≤ 7293034; omega) rfl (by decide) dL_law_809 (fun v adT ctT H locs hp hW hS => ?_)
  obtain ⟨rfl, h1, h2⟩ := hp
  rw [h1, h2] at hW
  have hu := hok.1 _ _ _ _ _ _ hsp hspR
  refine lv_iload hx hb dL_law_812 (hL.at 6 rfl) ?_
  refine lv_icmp_eq (tgt := 819) hx hb dL_law_814 (by decide) (fun c814 => ?_) (fun c814 => ?_)
  · try dsimp only at c814
    
    refine lv_iload hx hb dL_law_819 (hL.at 6 rfl) ?_
    refine lv_if_ne (tgt := 836) hx hb dL_law_821 (by decide) (fun c821 => ?_) (fun c821 => ?_)
    · try dsimp only at c821
      refine lv_goto (tgt := 2221) hx hb dL_law_836 (by decide) ?_
      exact W.widen (by omega) (by omega) (kk MR adR ctR H locs ls (lI_end hlC hu.2.2 hfl hlR2 (hok.2 _ _ _ hspR) (e0.trans h0.2.2.2.2.2.1) hou) hW hS (hL.le (by repeat (first | exact kle_nil | refine kle_same ?_ | refine kle_drop ?_))))
    · try dsimp only at c821
      refine lv_aload_n hx hb dL_law_824 rfl (hL.at 3 rfl) ?_
      refine lv_iconst (v := 0) hx hb dL_law_825 (by decide) ?_
      refine k_lald hx hb hK hW ((hfl 90 (by omega)).2.trans hou.1) 0 (by omega) (by omega) rfl dL_law_826 ?_
      rw [hk0 c821, hu.2.1 c821]
      refine lv_iload hx hb dL_law_827 (hL.at 7 rfl) ?_
      refine lv_i2l hx hb dL_law_829 rfl ?_
      refine W.lcmp hx hb dL_law_830 ?_
      refine lv_if_eq (tgt := 836) hx hb dL_law_831 (by decide) (fun c831 => ?_) (fun c831 => ?_)
      · try dsimp only at c831
        
        refine lv_goto (tgt := 2221) hx hb dL_law_836 (by decide) ?_
        exact W.widen (by omega) (by omega) (kk MR adR ctR H locs ls (lI_end hlC hu.2.2 hfl hlR2 (hok.2 _ _ _ hspR) (e0.trans h0.2.2.2.2.2.1) hou) hW hS (hL.le (by repeat (first | exact kle_nil | refine kle_same ?_ | refine kle_drop ?_))))
      · try dsimp only at c831
        exact absurd (lg_self _) c831
  · try dsimp only at c814
    exact absurd hu.1.symm c814

set_option maxHeartbeats 4000000 in
set_option maxRecDepth 100000 in
theorem L_cut {l : Launch} {D : va_G} {cy : Nat → ClassId} {sad : Nat → Nat} {em : Nat} {s0 : State} {a0 : Array Value} (G : kG kSTR l D cy sad em s0 a0) {p : Program} {e : Env} {s : State} {m : MethodId} {args : Array Value} {below : List Frame} {meth : Method} {c : Code} {H : Heap} {locs : List Loc} {cells slots : Nat} {Q : State → Prop} {ls : Array Slot} {b L : Nat} {xs : Nat → Int32} {nb : Nat} {M : tM} {ad : Nat → Nat} {ct : Nat → Option va_E}
    (hx : p.tables.exec = Jvm.exec) (hb : c.code = cL_law) (hml : c.maxLocals = 10) (hown : s.vm.findClass "TailorBenchLaw" = some m.cls) (hts : ∀ w ∈ gT, w.before args s = true) (hq : ∀ w ∈ lw_tbl, kgood w = true → w.before args s = true) (hK : va_K D vwCl (ktys cy) s) (hI : kI s0 s) (hX : va_X b L xs s s.heap) (hbl : b < s.heap.size) (hbA : ¬ kA s0 b) (hnb : 7 * nb + 7 ≤ L) (hL3 : L ≤ 3584) (h0 : lI cy em nb M ad ct) (hW : kW D s0.heap.size ad ct H) (hS : va_S (kA s0) s.heap H locs) (hL : lvP ls 10 [some (.ref b), some (.ref (ad 1)), some (.ref (ad 100)), some (.ref (ad 90)), some (.ref (ad 91)), some (.int (nI (7 * nb))), none, none, none, none]) (hcl : cells + 900 ≤ 601024) (hsl : slots + 13100 ≤ 7293034)
    {sp : Int32 → UInt64 → tM → Prop} (hok : spOk nb sp)
    (hC : KM l yL_cut [.codeWith yL_cut method_11_code 6 (some .int) [(0, 11, 14, 21), (0, 11, 18, 13), (0, 11, 22, 15)]] 9 179 5 30 [.ref (ad 1), .int (xs (7 * nb + 1)), .int (xs (7 * nb + 2)), .int (xs (7 * nb + 3)), .ref (ad 91)] D s0 ad ct (oCd cy ad M sp))
    (hR : ∀ (adC : Nat → Nat) (ctC : Nat → Option va_E), lR cy adC ctC M → adC 0 = em → KM l yX11_cut [.code yX11_cut prog_10_method_28_code 8 (some .double)] 9 1600 14 200 [.ref (adC 100), .int (xs (7 * nb + 1)), .int (xs (7 * nb + 2)), .int (xs (7 * nb + 3))] D s0 adC ctC (oRd cy adC ctC sp))
    (kk : ∀ (M' : tM) (ad' : Nat → Nat) (ct' : Nat → Option va_E) (H' : Heap) (locs' : List Loc) (ls' : Array Slot), lI cy em (nb + 1) M' ad' ct' → kW D s0.heap.size ad' ct' H' → va_S (kA s0) s.heap H' locs' → lvP ls' 10 [some (.ref b), some (.ref (ad' 1)), some (.ref (ad' 100)), some (.ref (ad' 90)), some (.ref (ad' 91)), some (.int (nI (7 * nb))), none, none, none, none] → W p l e room_1 s m args below meth c H' locs' (cells + 900) (slots + 13100) Q (F0 m 2221 ls' [])) :
    W p l e room_1 s m args below meth c H locs cells slots Q (F0 m 839 ls []) := by
  refine lv_aload_n hx hb dL_law_839 rfl (hL.at 1 rfl) ?_
  refine lv_aload_n hx hb dL_law_840 rfl (hL.at 0 rfl) ?_
  refine lv_iload hx hb dL_law_841 (hL.at 5 rfl) ?_
  refine lv_iconst (v := 1) hx hb dL_law_843 (by decide) ?_
  refine lv_iadd hx hb dL_law_844 ?_
  refine k_sld hx hb hX hbl hbA hS (k := 1) rfl (by omega) hL3 dL_law_845 ?_
  refine lv_aload_n hx hb dL_law_846 rfl (hL.at 0 rfl) ?_
  refine lv_iload hx hb dL_law_847 (hL.at 5 rfl) ?_
  refine lv_iconst (v := 2) hx hb dL_law_849 (by decide) ?_
  refine lv_iadd hx hb dL_law_850 ?_
  refine k_sld hx hb hX hbl hbA hS (k := 2) rfl (by omega) hL3 dL_law_851 ?_
  refine lv_aload_n hx hb dL_law_852 rfl (hL.at 0 rfl) ?_
  refine lv_iload hx hb dL_law_853 (hL.at 5 rfl) ?_
  refine lv_iconst (v := 3) hx hb dL_law_855 (by decide) ?_
  refine lv_iadd hx hb dL_law_856 ?_
  refine k_sld hx hb hX hbl hbA hS (k := 3) rfl (by omega) hL3 dL_law_857 ?_
  refine lv_aload hx hb dL_law_858 (hL.at 4 rfl) ?_
  refine k_callSH hx hb hml hown hts hI hS hW hL.1 hC (m4 (gT_in q711 rfl) (gT_in q712 rfl) (gT_in q54 rfl) (gT_in q713 rfl)) (show kpar yL_cut 5 from ⟨by decide, by decide, by decide +kernel⟩) (by first | exact ⟨by decide, by decide⟩ | exact ⟨Nat.le_of_ble_eq_true rfl, Nat.le_of_ble_eq_true rfl⟩) (by show _ ≤ 601024; omega) (by show _ ≤ 7293034; omega) rfl (by decide) dL_law_860 (fun v adC ctC H locs hp hW hS => ?_)
  obtain ⟨kc, a, MC, fo, fd, rfl, hlC, hlR, ⟨e0, e1, e100, e90, e91⟩, hou, hk0, hsp⟩ := hp
  rw [← e1, ← e100, ← e90, ← e91] at hL
  obtain ⟨⟨th0, sm0, hm100⟩, -⟩ := id hlR
  refine k_ist hx hb hL (i := 6) (by decide) dL_law_863 (fun ls hL => ?_)
  replace hL := hL.nrm (l' := [some _, some _, some _, some _, some _, some _, some _, none, none, none]) rfl
  refine lv_aload_n hx hb dL_law_865 rfl (hL.at 2 rfl) ?_
  refine lv_aload_n hx hb dL_law_866 rfl (hL.at 0 rfl) ?_
  refine lv_iload hx hb dL_law_867 (hL.at 5 rfl) ?_
  refine lv_iconst (v := 1) hx hb dL_law_869 (by decide) ?_
  refine lv_iadd hx hb dL_law_870 ?_
  refine k_sld hx hb hX hbl hbA hS (k := 1) rfl (by omega) hL3 dL_law_871 ?_
  refine lv_aload_n hx hb dL_law_872 rfl (hL.at 0 rfl) ?_
  refine lv_iload hx hb dL_law_873 (hL.at 5 rfl) ?_
  refine lv_iconst (v := 2) hx hb dL_law_875 (by decide) ?_
  refine lv_iadd hx hb dL_law_876 ?_
  refine k_sld hx hb hX hbl hbA hS (k := 2) rfl (by omega) hL3 dL_law_877 ?_
  refine lv_aload_n hx hb dL_law_878 rfl (hL.at 0 rfl) ?_
  refine lv_iload hx hb dL_law_879 (hL.at 5 rfl) ?_
  refine lv_iconst (v := 3) hx hb dL_law_881 (by decide) ?_
  refine lv_iadd hx hb dL_law_882 ?_
  refine k_sld hx hb hX hbl hbA hS (k := 3) rfl (by omega) hL3 dL_law_883 ?_
  refine k_callV (q := (RX11, TX11, 13)) hx hb hml hown hts hK hI hS hW hL.1 (hm100) rfl (hR adC ctC hlR (e0.trans h0.2.2.2.2.2.1)) (m5 (gT_in q1179 rfl) (gT_in q1180 rfl) (gT_in q1181 rfl) (gT_in q57 rfl) (gT_in q1182 rfl)) rfl (show kpar yX11_cut 3 from ⟨by decide, by decide, by decide +kernel⟩) (by first | exact ⟨by decide, by decide⟩ | exact ⟨Nat.le_of_ble_eq_true rfl, Nat.le_of_ble_eq_true rfl⟩) (by show _ ≤ 601024; omega) (by show _ ≤ 7293034; omega) rfl (by decide) dL_law_884 (fun v adR ctR H locs hp hW hS => ?_)
  obtain ⟨bb, th, sm, MR, rfl, hmR, hlR2, hfl, f100, hspR⟩ := hp
  rw [← f100, ← (hfl 1 (by omega)).1, ← (hfl 90 (by omega)).1, ← (hfl 91 (by omega)).1] at hL
  refine k_dst hx hb hL (i := 7) (by decide) dL_law_887 (fun ls hL => ?_)
  replace hL := hL.nrm (l' := [some _, some _, some _, some _, some _, some _, some _, some _, none, none]) rfl
  refine lv_aload_n hx hb dL_law_889 rfl (hL.at 2 rfl) ?_
  refine k_callV (q := (RX11, TX11, 13)) hx hb hml hown hts hK hI hS hW hL.1 (hmR) rfl (r_thrown G hmR) (m5 (gT_in q912 rfl) (gT_in q913 rfl) (gT_in q914 rfl) (gT_in q57 rfl) (gT_in q915 rfl)) rfl (show kpar yX11_thrown 0 from ⟨by decide, by decide, by decide +kernel⟩) (by first | exact ⟨by decide, by decide⟩ | exact ⟨Nat.le_of_ble_eq_true rfl, Nat.le_of_ble_eq_true rfl⟩) (by show _ ≤ 601024; omega) (by show _ ≤ 7293034; omega) rfl (by decide) dL_law_890 (fun v adT ctT H locs hp hW hS => ?_)
  obtain ⟨rfl, h1, h2⟩ := hp
  rw [h1, h2] at hW
  have hu := hok.1 _ _ _ _ _ _ hsp hspR
  refine lv_iload hx hb dL_law_893 (hL.at 6 rfl) ?_
  refine lv_icmp_eq (tgt := 900) hx hb dL_law_895 (by decide) (fun c895 => ?_) (fun c895 => ?_)
  · try dsimp only at c895
    
    refine lv_iload hx hb dL_law_900 (hL.at 6 rfl) ?_
    refine lv_if_ne (tgt := 937) hx hb dL_law_902 (by decide) (fun c902 => ?_) (fun c902 => ?_)
    · try dsimp only at c902
      refine lv_goto (tgt := 2221) hx hb dL_law_937 (by decide) ?_
      exact W.widen (by omega) (by omega) (kk MR adR ctR H locs ls (lI_end hlC hu.2.2 hfl hlR2 (hok.2 _ _ _ hspR) (e0.trans h0.2.2.2.2.2.1) hou) hW hS (hL.le (by repeat (first | exact kle_nil | refine kle_same ?_ | refine kle_drop ?_))))
    · try dsimp only at c902
      refine lv_aload hx hb dL_law_905 (hL.at 4 rfl) ?_
      refine lv_iconst (v := 0) hx hb dL_law_907 (by decide) ?_
      refine k_dald hx hb hK hW ((hfl 91 (by omega)).2.trans hou.2) 0 (by omega) (by omega) rfl dL_law_908 ?_
      rw [hk0 c902, hu.2.1 c902]
      refine lv_dload hx hb dL_law_909 (hL.at 7 rfl) ?_
      refine lv_dcmp hx hb dL_law_911 ?_
      refine lv_if_eq (tgt := 937) hx hb dL_law_912 (by decide) (fun c912 => ?_) (fun c912 => ?_)
      · rw [cl_eq] at c912
        
        refine lv_goto (tgt := 2221) hx hb dL_law_937 (by decide) ?_
        exact W.widen (by omega) (by omega) (kk MR adR ctR H locs ls (lI_end hlC hu.2.2 hfl hlR2 (hok.2 _ _ _ hspR) (e0.trans h0.2.2.2.2.2.1) hou) hW hS (hL.le (by repeat (first | exact kle_nil | refine kle_same ?_ | refine kle_drop ?_))))
      · rw [cl_eq] at c912
        
        refine lv_aload hx hb dL_law_915 (hL.at 4 rfl) ?_
        refine lv_iconst (v := 0) hx hb dL_law_917 (by decide) ?_
        refine k_dald hx hb hK hW ((hfl 91 (by omega)).2.trans hou.2) 0 (by omega) (by omega) rfl dL_law_918 ?_
        rw [hk0 c902, hu.2.1 c902]
        refine lv_aload hx hb dL_law_919 (hL.at 4 rfl) ?_
        refine lv_iconst (v := 0) hx hb dL_law_921 (by decide) ?_
        refine k_dald hx hb hK hW ((hfl 91 (by omega)).2.trans hou.2) 0 (by omega) (by omega) rfl dL_law_922 ?_
        rw [hk0 c902, hu.2.1 c902]
        refine lv_dcmp hx hb dL_law_923 ?_
        refine lv_if_eq (tgt := 935) hx hb dL_law_924 (by decide) (fun c924 => ?_) (fun c924 => ?_)
        · rw [cl_eq] at c924
          exact absurd c924 c912
        · rw [cl_eq] at c924
          
          refine lv_dload hx hb dL_law_927 (hL.at 7 rfl) ?_
          refine lv_dload hx hb dL_law_929 (hL.at 7 rfl) ?_
          refine lv_dcmp hx hb dL_law_931 ?_
          refine lv_if_ne (tgt := 937) hx hb dL_law_932 (by decide) (fun c932 => ?_) (fun c932 => ?_)
          · rw [cl_eq] at c932
            
            refine lv_goto (tgt := 2221) hx hb dL_law_937 (by decide) ?_
            exact W.widen (by omega) (by omega) (kk MR adR ctR H locs ls (lI_end hlC hu.2.2 hfl hlR2 (hok.2 _ _ _ hspR) (e0.trans h0.2.2.2.2.2.1) hou) hW hS (hL.le (by repeat (first | exact kle_nil | refine kle_same ?_ | refine kle_drop ?_))))
          · rw [cl_eq] at c932
            exact absurd (by first | exact c932 | exact Decidable.not_not.mp c932) c912
  · try dsimp only at c895
    exact absurd hu.1.symm c895

set_option maxHeartbeats 4000000 in
set_option maxRecDepth 100000 in
theorem L_sew {l : Launch} {D : va_G} {cy : Nat → ClassId} {sad : Nat → Nat} {em : Nat} {s0 : State} {a0 : Array Value} (G : kG kSTR l D cy sad em s0 a0) {p : Program} {e : Env} {s : State} {m : MethodId} {args : Array Value} {below : List Frame} {meth : Method} {c : Code} {H : Heap} {locs : List Loc} {cells slots : Nat} {Q : State → Prop} {ls : Array Slot} {b L : Nat} {xs : Nat → Int32} {nb : Nat} {M : tM} {ad : Nat → Nat} {ct : Nat → Option va_E}
    (hx : p.tables.exec = Jvm.exec) (hb : c.code = cL_law) (hml : c.maxLocals = 10) (hown : s.vm.findClass "TailorBenchLaw" = some m.cls) (hts : ∀ w ∈ gT, w.before args s = true) (hq : ∀ w ∈ lw_tbl, kgood w = true → w.before args s = true) (hK : va_K D vwCl (ktys cy) s) (hI : kI s0 s) (hX : va_X b L xs s s.heap) (hbl : b < s.heap.size) (hbA : ¬ kA s0 b) (hnb : 7 * nb + 7 ≤ L) (hL3 : L ≤ 3584) (h0 : lI cy em nb M ad ct) (hW : kW D s0.heap.size ad ct H) (hS : va_S (kA s0) s.heap H locs) (hL : lvP ls 10 [some (.ref b), some (.ref (ad 1)), some (.ref (ad 100)), some (.ref (ad 90)), some (.ref (ad 91)), some (.int (nI (7 * nb))), none, none, none, none]) (hcl : cells + 900 ≤ 601024) (hsl : slots + 13100 ≤ 7293034)
    {sp : Int32 → UInt64 → tM → Prop} (hok : spOk nb sp)
    (hC : KM l yL_sew [.codeWith yL_sew method_12_code 5 (some .int) [(0, 9, 12, 21), (0, 9, 16, 15)]] 8 144 3 18 [.ref (ad 1), .int (xs (7 * nb + 1)), .int (xs (7 * nb + 2)), .ref (ad 91)] D s0 ad ct (oCd cy ad M sp))
    (hR : ∀ (adC : Nat → Nat) (ctC : Nat → Option va_E), lR cy adC ctC M → adC 0 = em → KM l yX11_sew [.code yX11_sew prog_10_method_31_code 4 (some .double)] 6 190 1 4 [.ref (adC 100), .int (xs (7 * nb + 1)), .int (xs (7 * nb + 2))] D s0 adC ctC (oRd cy adC ctC sp))
    (kk : ∀ (M' : tM) (ad' : Nat → Nat) (ct' : Nat → Option va_E) (H' : Heap) (locs' : List Loc) (ls' : Array Slot), lI cy em (nb + 1) M' ad' ct' → kW D s0.heap.size ad' ct' H' → va_S (kA s0) s.heap H' locs' → lvP ls' 10 [some (.ref b), some (.ref (ad' 1)), some (.ref (ad' 100)), some (.ref (ad' 90)), some (.ref (ad' 91)), some (.int (nI (7 * nb))), none, none, none, none] → W p l e room_1 s m args below meth c H' locs' (cells + 900) (slots + 13100) Q (F0 m 2221 ls' [])) :
    W p l e room_1 s m args below meth c H locs cells slots Q (F0 m 940 ls []) := by
  refine lv_aload_n hx hb dL_law_940 rfl (hL.at 1 rfl) ?_
  refine lv_aload_n hx hb dL_law_941 rfl (hL.at 0 rfl) ?_
  refine lv_iload hx hb dL_law_942 (hL.at 5 rfl) ?_
  refine lv_iconst (v := 1) hx hb dL_law_944 (by decide) ?_
  refine lv_iadd hx hb dL_law_945 ?_
  refine k_sld hx hb hX hbl hbA hS (k := 1) rfl (by omega) hL3 dL_law_946 ?_
  refine lv_aload_n hx hb dL_law_947 rfl (hL.at 0 rfl) ?_
  refine lv_iload hx hb dL_law_948 (hL.at 5 rfl) ?_
  refine lv_iconst (v := 2) hx hb dL_law_950 (by decide) ?_
  refine lv_iadd hx hb dL_law_951 ?_
  refine k_sld hx hb hX hbl hbA hS (k := 2) rfl (by omega) hL3 dL_law_952 ?_
  refine lv_aload hx hb dL_law_953 (hL.at 4 rfl) ?_
  refine k_callSH hx hb hml hown hts hI hS hW hL.1 hC (m4 (gT_in q738 rfl) (gT_in q739 rfl) (gT_in q54 rfl) (gT_in q740 rfl)) (show kpar yL_sew 4 from ⟨by decide, by decide, by decide +kernel⟩) (by first | exact ⟨by decide, by decide⟩ | exact ⟨Nat.le_of_ble_eq_true rfl, Nat.le_of_ble_eq_true rfl⟩) (by show _ ≤ 601024; omega) (by show _ ≤ 7293034; omega) rfl (by decide) dL_law_955 (fun v adC ctC H locs hp hW hS => ?_)
  obtain ⟨kc, a, MC, fo, fd, rfl, hlC, hlR, ⟨e0, e1, e100, e90, e91⟩, hou, hk0, hsp⟩ := hp
  rw [← e1, ← e100, ← e90, ← e91] at hL
  obtain ⟨⟨th0, sm0, hm100⟩, -⟩ := id hlR
  refine k_ist hx hb hL (i := 6) (by decide) dL_law_958 (fun ls hL => ?_)
  replace hL := hL.nrm (l' := [some _, some _, some _, some _, some _, some _, some _, none, none, none]) rfl
  refine lv_aload_n hx hb dL_law_960 rfl (hL.at 2 rfl) ?_
  refine lv_aload_n hx hb dL_law_961 rfl (hL.at 0 rfl) ?_
  refine lv_iload hx hb dL_law_962 (hL.at 5 rfl) ?_
  refine lv_iconst (v := 1) hx hb dL_law_964 (by decide) ?_
  refine lv_iadd hx hb dL_law_965 ?_
  refine k_sld hx hb hX hbl hbA hS (k := 1) rfl (by omega) hL3 dL_law_966 ?_
  refine lv_aload_n hx hb dL_law_967 rfl (hL.at 0 rfl) ?_
  refine lv_iload hx hb dL_law_968 (hL.at 5 rfl) ?_
  refine lv_iconst (v := 2) hx hb dL_law_970 (by decide) ?_
  refine lv_iadd hx hb dL_law_971 ?_
  refine k_sld hx hb hX hbl hbA hS (k := 2) rfl (by omega) hL3 dL_law_972 ?_
  refine k_callV (q := (RX11, TX11, 13)) hx hb hml hown hts hK hI hS hW hL.1 (hm100) rfl (hR adC ctC hlR (e0.trans h0.2.2.2.2.2.1)) (m5 (gT_in q1277 rfl) (gT_in q1278 rfl) (gT_in q1279 rfl) (gT_in q57 rfl) (gT_in q1280 rfl)) rfl (show kpar yX11_sew 2 from ⟨by decide, by decide, by decide +kernel⟩) (by first | exact ⟨by decide, by decide⟩ | exact ⟨Nat.le_of_ble_eq_true rfl, Nat.le_of_ble_eq_true rfl⟩) (by show _ ≤ 601024; omega) (by show _ ≤ 7293034; omega) rfl (by decide) dL_law_973 (fun v adR ctR H locs hp hW hS => ?_)
  obtain ⟨bb, th, sm, MR, rfl, hmR, hlR2, hfl, f100, hspR⟩ := hp
  rw [← f100, ← (hfl 1 (by omega)).1, ← (hfl 90 (by omega)).1, ← (hfl 91 (by omega)).1] at hL
  refine k_dst hx hb hL (i := 7) (by decide) dL_law_976 (fun ls hL => ?_)
  replace hL := hL.nrm (l' := [some _, some _, some _, some _, some _, some _, some _, some _, none, none]) rfl
  refine lv_aload_n hx hb dL_law_978 rfl (hL.at 2 rfl) ?_
  refine k_callV (q := (RX11, TX11, 13)) hx hb hml hown hts hK hI hS hW hL.1 (hmR) rfl (r_thrown G hmR) (m5 (gT_in q912 rfl) (gT_in q913 rfl) (gT_in q914 rfl) (gT_in q57 rfl) (gT_in q915 rfl)) rfl (show kpar yX11_thrown 0 from ⟨by decide, by decide, by decide +kernel⟩) (by first | exact ⟨by decide, by decide⟩ | exact ⟨Nat.le_of_ble_eq_true rfl, Nat.le_of_ble_eq_true rfl⟩) (by show _ ≤ 601024; omega) (by show _ ≤ 7293034; omega) rfl (by decide) dL_law_979 (fun v adT ctT H locs hp hW hS => ?_)
  obtain ⟨rfl, h1, h2⟩ := hp
  rw [h1, h2] at hW
  have hu := hok.1 _ _ _ _ _ _ hsp hspR
  refine lv_iload hx hb dL_law_982 (hL.at 6 rfl) ?_
  refine lv_icmp_eq (tgt := 989) hx hb dL_law_984 (by decide) (fun c984 => ?_) (fun c984 => ?_)
  · try dsimp only at c984
    
    refine lv_iload hx hb dL_law_989 (hL.at 6 rfl) ?_
    refine lv_if_ne (tgt := 1026) hx hb dL_law_991 (by decide) (fun c991 => ?_) (fun c991 => ?_)
    · try dsimp only at c991
      refine lv_goto (tgt := 2221) hx hb dL_law_1026 (by decide) ?_
      exact W.widen (by omega) (by omega) (kk MR adR ctR H locs ls (lI_end hlC hu.2.2 hfl hlR2 (hok.2 _ _ _ hspR) (e0.trans h0.2.2.2.2.2.1) hou) hW hS (hL.le (by repeat (first | exact kle_nil | refine kle_same ?_ | refine kle_drop ?_))))
    · try dsimp only at c991
      refine lv_aload hx hb dL_law_994 (hL.at 4 rfl) ?_
      refine lv_iconst (v := 0) hx hb dL_law_996 (by decide) ?_
      refine k_dald hx hb hK hW ((hfl 91 (by omega)).2.trans hou.2) 0 (by omega) (by omega) rfl dL_law_997 ?_
      rw [hk0 c991, hu.2.1 c991]
      refine lv_dload hx hb dL_law_998 (hL.at 7 rfl) ?_
      refine lv_dcmp hx hb dL_law_1000 ?_
      refine lv_if_eq (tgt := 1026) hx hb dL_law_1001 (by decide) (fun c1001 => ?_) (fun c1001 => ?_)
      · rw [cl_eq] at c1001
        
        refine lv_goto (tgt := 2221) hx hb dL_law_1026 (by decide) ?_
        exact W.widen (by omega) (by omega) (kk MR adR ctR H locs ls (lI_end hlC hu.2.2 hfl hlR2 (hok.2 _ _ _ hspR) (e0.trans h0.2.2.2.2.2.1) hou) hW hS (hL.le (by repeat (first | exact kle_nil | refine kle_same ?_ | refine kle_drop ?_))))
      · rw [cl_eq] at c1001
        
        refine lv_aload hx hb dL_law_1004 (hL.at 4 rfl) ?_
        refine lv_iconst (v := 0) hx hb dL_law_1006 (by decide) ?_
        refine k_dald hx hb hK hW ((hfl 91 (by omega)).2.trans hou.2) 0 (by omega) (by omega) rfl dL_law_1007 ?_
        rw [hk0 c991, hu.2.1 c991]
        refine lv_aload hx hb dL_law_1008 (hL.at 4 rfl) ?_
        refine lv_iconst (v := 0) hx hb dL_law_1010 (by decide) ?_
        refine k_dald hx hb hK hW ((hfl 91 (by omega)).2.trans hou.2) 0 (by omega) (by omega) rfl dL_law_1011 ?_
        rw [hk0 c991, hu.2.1 c991]
        refine lv_dcmp hx hb dL_law_1012 ?_
        refine lv_if_eq (tgt := 1024) hx hb dL_law_1013 (by decide) (fun c1013 => ?_) (fun c1013 => ?_)
        · rw [cl_eq] at c1013
          exact absurd c1013 c1001
        · rw [cl_eq] at c1013
          
          refine lv_dload hx hb dL_law_1016 (hL.at 7 rfl) ?_
          refine lv_dload hx hb dL_law_1018 (hL.at 7 rfl) ?_
          refine lv_dcmp hx hb dL_law_1020 ?_
          refine lv_if_ne (tgt := 1026) hx hb dL_law_1021 (by decide) (fun c1021 => ?_) (fun c1021 => ?_)
          · rw [cl_eq] at c1021
            
            refine lv_goto (tgt := 2221) hx hb dL_law_1026 (by decide) ?_
            exact W.widen (by omega) (by omega) (kk MR adR ctR H locs ls (lI_end hlC hu.2.2 hfl hlR2 (hok.2 _ _ _ hspR) (e0.trans h0.2.2.2.2.2.1) hou) hW hS (hL.le (by repeat (first | exact kle_nil | refine kle_same ?_ | refine kle_drop ?_))))
          · rw [cl_eq] at c1021
            exact absurd (by first | exact c1021 | exact Decidable.not_not.mp c1021) c1001
  · try dsimp only at c984
    exact absurd hu.1.symm c984

set_option maxHeartbeats 4000000 in
set_option maxRecDepth 100000 in
theorem L_fit {l : Launch} {D : va_G} {cy : Nat → ClassId} {sad : Nat → Nat} {em : Nat} {s0 : State} {a0 : Array Value} (G : kG kSTR l D cy sad em s0 a0) {p : Program} {e : Env} {s : State} {m : MethodId} {args : Array Value} {below : List Frame} {meth : Method} {c : Code} {H : Heap} {locs : List Loc} {cells slots : Nat} {Q : State → Prop} {ls : Array Slot} {b L : Nat} {xs : Nat → Int32} {nb : Nat} {M : tM} {ad : Nat → Nat} {ct : Nat → Option va_E}
    (hx : p.tables.exec = Jvm.exec) (hb : c.code = cL_law) (hml : c.maxLocals = 10) (hown : s.vm.findClass "TailorBenchLaw" = some m.cls) (hts : ∀ w ∈ gT, w.before args s = true) (hq : ∀ w ∈ lw_tbl, kgood w = true → w.before args s = true) (hK : va_K D vwCl (ktys cy) s) (hI : kI s0 s) (hX : va_X b L xs s s.heap) (hbl : b < s.heap.size) (hbA : ¬ kA s0 b) (hnb : 7 * nb + 7 ≤ L) (hL3 : L ≤ 3584) (h0 : lI cy em nb M ad ct) (hW : kW D s0.heap.size ad ct H) (hS : va_S (kA s0) s.heap H locs) (hL : lvP ls 10 [some (.ref b), some (.ref (ad 1)), some (.ref (ad 100)), some (.ref (ad 90)), some (.ref (ad 91)), some (.int (nI (7 * nb))), none, none, none, none]) (hcl : cells + 900 ≤ 601024) (hsl : slots + 13100 ≤ 7293034)
    {sp : Int32 → Int32 → tM → Prop} (hok : spOk nb sp)
    (hC : KM l yL_fit [.codeWith yL_fit method_13_code 4 (some .int) [(0, 9, 12, 21), (0, 9, 15, 15)]] 8 143 2 12 [.ref (ad 1), .int (xs (7 * nb + 1)), .ref (ad 90)] D s0 ad ct (oCi cy ad M sp))
    (hR : ∀ (adC : Nat → Nat) (ctC : Nat → Option va_E), lR cy adC ctC M → adC 0 = em → KM l yX11_fit [.code yX11_fit prog_10_method_33_code 5 (some .int)] 7 240 0 0 [.ref (adC 100), .int (xs (7 * nb + 1))] D s0 adC ctC (oRi cy adC ctC sp))
    (kk : ∀ (M' : tM) (ad' : Nat → Nat) (ct' : Nat → Option va_E) (H' : Heap) (locs' : List Loc) (ls' : Array Slot), lI cy em (nb + 1) M' ad' ct' → kW D s0.heap.size ad' ct' H' → va_S (kA s0) s.heap H' locs' → lvP ls' 10 [some (.ref b), some (.ref (ad' 1)), some (.ref (ad' 100)), some (.ref (ad' 90)), some (.ref (ad' 91)), some (.int (nI (7 * nb))), none, none, none, none] → W p l e room_1 s m args below meth c H' locs' (cells + 900) (slots + 13100) Q (F0 m 2221 ls' [])) :
    W p l e room_1 s m args below meth c H locs cells slots Q (F0 m 1029 ls []) := by
  refine lv_aload_n hx hb dL_law_1029 rfl (hL.at 1 rfl) ?_
  refine lv_aload_n hx hb dL_law_1030 rfl (hL.at 0 rfl) ?_
  refine lv_iload hx hb dL_law_1031 (hL.at 5 rfl) ?_
  refine lv_iconst (v := 1) hx hb dL_law_1033 (by decide) ?_
  refine lv_iadd hx hb dL_law_1034 ?_
  refine k_sld hx hb hX hbl hbA hS (k := 1) rfl (by omega) hL3 dL_law_1035 ?_
  refine lv_aload_n hx hb dL_law_1036 rfl (hL.at 3 rfl) ?_
  refine k_callSH hx hb hml hown hts hI hS hW hL.1 hC (m4 (gT_in q746 rfl) (gT_in q747 rfl) (gT_in q54 rfl) (gT_in q748 rfl)) (show kpar yL_fit 3 from ⟨by decide, by decide, by decide +kernel⟩) (by first | exact ⟨by decide, by decide⟩ | exact ⟨Nat.le_of_ble_eq_true rfl, Nat.le_of_ble_eq_true rfl⟩) (by show _ ≤ 601024; omega) (by show _ ≤ 7293034; omega) rfl (by decide) dL_law_1037 (fun v adC ctC H locs hp hW hS => ?_)
  obtain ⟨kc, a, MC, fo, fd, rfl, hlC, hlR, ⟨e0, e1, e100, e90, e91⟩, hou, hk0, hsp⟩ := hp
  rw [← e1, ← e100, ← e90, ← e91] at hL
  obtain ⟨⟨th0, sm0, hm100⟩, -⟩ := id hlR
  refine k_ist hx hb hL (i := 6) (by decide) dL_law_1040 (fun ls hL => ?_)
  replace hL := hL.nrm (l' := [some _, some _, some _, some _, some _, some _, some _, none, none, none]) rfl
  refine lv_aload_n hx hb dL_law_1042 rfl (hL.at 2 rfl) ?_
  refine lv_aload_n hx hb dL_law_1043 rfl (hL.at 0 rfl) ?_
  refine lv_iload hx hb dL_law_1044 (hL.at 5 rfl) ?_
  refine lv_iconst (v := 1) hx hb dL_law_1046 (by decide) ?_
  refine lv_iadd hx hb dL_law_1047 ?_
  refine k_sld hx hb hX hbl hbA hS (k := 1) rfl (by omega) hL3 dL_law_1048 ?_
  refine k_callV (q := (RX11, TX11, 13)) hx hb hml hown hts hK hI hS hW hL.1 (hm100) rfl (hR adC ctC hlR (e0.trans h0.2.2.2.2.2.1)) (m5 (gT_in q1295 rfl) (gT_in q1296 rfl) (gT_in q1297 rfl) (gT_in q57 rfl) (gT_in q1298 rfl)) rfl (show kpar yX11_fit 1 from ⟨by decide, by decide, by decide +kernel⟩) (by first | exact ⟨by decide, by decide⟩ | exact ⟨Nat.le_of_ble_eq_true rfl, Nat.le_of_ble_eq_true rfl⟩) (by show _ ≤ 601024; omega) (by show _ ≤ 7293034; omega) rfl (by decide) dL_law_1049 (fun v adR ctR H locs hp hW hS => ?_)
  obtain ⟨bb, th, sm, MR, rfl, hmR, hlR2, hfl, f100, hspR⟩ := hp
  rw [← f100, ← (hfl 1 (by omega)).1, ← (hfl 90 (by omega)).1, ← (hfl 91 (by omega)).1] at hL
  refine k_ist hx hb hL (i := 7) (by decide) dL_law_1052 (fun ls hL => ?_)
  replace hL := hL.nrm (l' := [some _, some _, some _, some _, some _, some _, some _, some _, none, none]) rfl
  refine lv_aload_n hx hb dL_law_1054 rfl (hL.at 2 rfl) ?_
  refine k_callV (q := (RX11, TX11, 13)) hx hb hml hown hts hK hI hS hW hL.1 (hmR) rfl (r_thrown G hmR) (m5 (gT_in q912 rfl) (gT_in q913 rfl) (gT_in q914 rfl) (gT_in q57 rfl) (gT_in q915 rfl)) rfl (show kpar yX11_thrown 0 from ⟨by decide, by decide, by decide +kernel⟩) (by first | exact ⟨by decide, by decide⟩ | exact ⟨Nat.le_of_ble_eq_true rfl, Nat.le_of_ble_eq_true rfl⟩) (by show _ ≤ 601024; omega) (by show _ ≤ 7293034; omega) rfl (by decide) dL_law_1055 (fun v adT ctT H locs hp hW hS => ?_)
  obtain ⟨rfl, h1, h2⟩ := hp
  rw [h1, h2] at hW
  have hu := hok.1 _ _ _ _ _ _ hsp hspR
  refine lv_iload hx hb dL_law_1058 (hL.at 6 rfl) ?_
  refine lv_icmp_eq (tgt := 1065) hx hb dL_law_1060 (by decide) (fun c1060 => ?_) (fun c1060 => ?_)
  · try dsimp only at c1060
    
    refine lv_iload hx hb dL_law_1065 (hL.at 6 rfl) ?_
    refine lv_if_ne (tgt := 1082) hx hb dL_law_1067 (by decide) (fun c1067 => ?_) (fun c1067 => ?_)
    · try dsimp only at c1067
      refine lv_goto (tgt := 2221) hx hb dL_law_1082 (by decide) ?_
      exact W.widen (by omega) (by omega) (kk MR adR ctR H locs ls (lI_end hlC hu.2.2 hfl hlR2 (hok.2 _ _ _ hspR) (e0.trans h0.2.2.2.2.2.1) hou) hW hS (hL.le (by repeat (first | exact kle_nil | refine kle_same ?_ | refine kle_drop ?_))))
    · try dsimp only at c1067
      refine lv_aload_n hx hb dL_law_1070 rfl (hL.at 3 rfl) ?_
      refine lv_iconst (v := 0) hx hb dL_law_1071 (by decide) ?_
      refine k_lald hx hb hK hW ((hfl 90 (by omega)).2.trans hou.1) 0 (by omega) (by omega) rfl dL_law_1072 ?_
      rw [hk0 c1067, hu.2.1 c1067]
      refine lv_iload hx hb dL_law_1073 (hL.at 7 rfl) ?_
      refine lv_i2l hx hb dL_law_1075 rfl ?_
      refine W.lcmp hx hb dL_law_1076 ?_
      refine lv_if_eq (tgt := 1082) hx hb dL_law_1077 (by decide) (fun c1077 => ?_) (fun c1077 => ?_)
      · try dsimp only at c1077
        
        refine lv_goto (tgt := 2221) hx hb dL_law_1082 (by decide) ?_
        exact W.widen (by omega) (by omega) (kk MR adR ctR H locs ls (lI_end hlC hu.2.2 hfl hlR2 (hok.2 _ _ _ hspR) (e0.trans h0.2.2.2.2.2.1) hou) hW hS (hL.le (by repeat (first | exact kle_nil | refine kle_same ?_ | refine kle_drop ?_))))
      · try dsimp only at c1077
        exact absurd (lg_self _) c1077
  · try dsimp only at c1060
    exact absurd hu.1.symm c1060

set_option maxHeartbeats 4000000 in
set_option maxRecDepth 100000 in
theorem L_give {l : Launch} {D : va_G} {cy : Nat → ClassId} {sad : Nat → Nat} {em : Nat} {s0 : State} {a0 : Array Value} (G : kG kSTR l D cy sad em s0 a0) {p : Program} {e : Env} {s : State} {m : MethodId} {args : Array Value} {below : List Frame} {meth : Method} {c : Code} {H : Heap} {locs : List Loc} {cells slots : Nat} {Q : State → Prop} {ls : Array Slot} {b L : Nat} {xs : Nat → Int32} {nb : Nat} {M : tM} {ad : Nat → Nat} {ct : Nat → Option va_E}
    (hx : p.tables.exec = Jvm.exec) (hb : c.code = cL_law) (hml : c.maxLocals = 10) (hown : s.vm.findClass "TailorBenchLaw" = some m.cls) (hts : ∀ w ∈ gT, w.before args s = true) (hq : ∀ w ∈ lw_tbl, kgood w = true → w.before args s = true) (hK : va_K D vwCl (ktys cy) s) (hI : kI s0 s) (hX : va_X b L xs s s.heap) (hbl : b < s.heap.size) (hbA : ¬ kA s0 b) (hnb : 7 * nb + 7 ≤ L) (hL3 : L ≤ 3584) (h0 : lI cy em nb M ad ct) (hW : kW D s0.heap.size ad ct H) (hS : va_S (kA s0) s.heap H locs) (hL : lvP ls 10 [some (.ref b), some (.ref (ad 1)), some (.ref (ad 100)), some (.ref (ad 90)), some (.ref (ad 91)), some (.int (nI (7 * nb))), none, none, none, none]) (hcl : cells + 900 ≤ 601024) (hsl : slots + 13100 ≤ 7293034)
    {sp : Int32 → Int32 → tM → Prop} (hok : spOk nb sp)
    (hC : KM l yL_give [.codeWith yL_give method_14_code 4 (some .int) [(0, 9, 12, 21), (0, 9, 15, 15)]] 8 144 2 12 [.ref (ad 1), .int (xs (7 * nb + 1)), .ref (ad 90)] D s0 ad ct (oCi cy ad M sp))
    (hR : ∀ (adC : Nat → Nat) (ctC : Nat → Option va_E), lR cy adC ctC M → adC 0 = em → KM l yX11_give [.code yX11_give prog_10_method_34_code 6 (some .int)] 7 1540 1 4 [.ref (adC 100), .int (xs (7 * nb + 1))] D s0 adC ctC (oRi cy adC ctC sp))
    (kk : ∀ (M' : tM) (ad' : Nat → Nat) (ct' : Nat → Option va_E) (H' : Heap) (locs' : List Loc) (ls' : Array Slot), lI cy em (nb + 1) M' ad' ct' → kW D s0.heap.size ad' ct' H' → va_S (kA s0) s.heap H' locs' → lvP ls' 10 [some (.ref b), some (.ref (ad' 1)), some (.ref (ad' 100)), some (.ref (ad' 90)), some (.ref (ad' 91)), some (.int (nI (7 * nb))), none, none, none, none] → W p l e room_1 s m args below meth c H' locs' (cells + 900) (slots + 13100) Q (F0 m 2221 ls' [])) :
    W p l e room_1 s m args below meth c H locs cells slots Q (F0 m 1085 ls []) := by
  refine lv_aload_n hx hb dL_law_1085 rfl (hL.at 1 rfl) ?_
  refine lv_aload_n hx hb dL_law_1086 rfl (hL.at 0 rfl) ?_
  refine lv_iload hx hb dL_law_1087 (hL.at 5 rfl) ?_
  refine lv_iconst (v := 1) hx hb dL_law_1089 (by decide) ?_
  refine lv_iadd hx hb dL_law_1090 ?_
  refine k_sld hx hb hX hbl hbA hS (k := 1) rfl (by omega) hL3 dL_law_1091 ?_
  refine lv_aload_n hx hb dL_law_1092 rfl (hL.at 3 rfl) ?_
  refine k_callSH hx hb hml hown hts hI hS hW hL.1 hC (m4 (gT_in q762 rfl) (gT_in q763 rfl) (gT_in q54 rfl) (gT_in q764 rfl)) (show kpar yL_give 3 from ⟨by decide, by decide, by decide +kernel⟩) (by first | exact ⟨by decide, by decide⟩ | exact ⟨Nat.le_of_ble_eq_true rfl, Nat.le_of_ble_eq_true rfl⟩) (by show _ ≤ 601024; omega) (by show _ ≤ 7293034; omega) rfl (by decide) dL_law_1093 (fun v adC ctC H locs hp hW hS => ?_)
  obtain ⟨kc, a, MC, fo, fd, rfl, hlC, hlR, ⟨e0, e1, e100, e90, e91⟩, hou, hk0, hsp⟩ := hp
  rw [← e1, ← e100, ← e90, ← e91] at hL
  obtain ⟨⟨th0, sm0, hm100⟩, -⟩ := id hlR
  refine k_ist hx hb hL (i := 6) (by decide) dL_law_1096 (fun ls hL => ?_)
  replace hL := hL.nrm (l' := [some _, some _, some _, some _, some _, some _, some _, none, none, none]) rfl
  refine lv_aload_n hx hb dL_law_1098 rfl (hL.at 2 rfl) ?_
  refine lv_aload_n hx hb dL_law_1099 rfl (hL.at 0 rfl) ?_
  refine lv_iload hx hb dL_law_1100 (hL.at 5 rfl) ?_
  refine lv_iconst (v := 1) hx hb dL_law_1102 (by decide) ?_
  refine lv_iadd hx hb dL_law_1103 ?_
  refine k_sld hx hb hX hbl hbA hS (k := 1) rfl (by omega) hL3 dL_law_1104 ?_
  refine k_callV (q := (RX11, TX11, 13)) hx hb hml hown hts hK hI hS hW hL.1 (hm100) rfl (hR adC ctC hlR (e0.trans h0.2.2.2.2.2.1)) (m5 (gT_in q1307 rfl) (gT_in q1308 rfl) (gT_in q1309 rfl) (gT_in q57 rfl) (gT_in q1310 rfl)) rfl (show kpar yX11_give 1 from ⟨by decide, by decide, by decide +kernel⟩) (by first | exact ⟨by decide, by decide⟩ | exact ⟨Nat.le_of_ble_eq_true rfl, Nat.le_of_ble_eq_true rfl⟩) (by show _ ≤ 601024; omega) (by show _ ≤ 7293034; omega) rfl (by decide) dL_law_1105 (fun v adR ctR H locs hp hW hS => ?_)
  obtain ⟨bb, th, sm, MR, rfl, hmR, hlR2, hfl, f100, hspR⟩ := hp
  rw [← f100, ← (hfl 1 (by omega)).1, ← (hfl 90 (by omega)).1, ← (hfl 91 (by omega)).1] at hL
  refine k_ist hx hb hL (i := 7) (by decide) dL_law_1108 (fun ls hL => ?_)
  replace hL := hL.nrm (l' := [some _, some _, some _, some _, some _, some _, some _, some _, none, none]) rfl
  refine lv_aload_n hx hb dL_law_1110 rfl (hL.at 2 rfl) ?_
  refine k_callV (q := (RX11, TX11, 13)) hx hb hml hown hts hK hI hS hW hL.1 (hmR) rfl (r_thrown G hmR) (m5 (gT_in q912 rfl) (gT_in q913 rfl) (gT_in q914 rfl) (gT_in q57 rfl) (gT_in q915 rfl)) rfl (show kpar yX11_thrown 0 from ⟨by decide, by decide, by decide +kernel⟩) (by first | exact ⟨by decide, by decide⟩ | exact ⟨Nat.le_of_ble_eq_true rfl, Nat.le_of_ble_eq_true rfl⟩) (by show _ ≤ 601024; omega) (by show _ ≤ 7293034; omega) rfl (by decide) dL_law_1111 (fun v adT ctT H locs hp hW hS => ?_)
  obtain ⟨rfl, h1, h2⟩ := hp
  rw [h1, h2] at hW
  have hu := hok.1 _ _ _ _ _ _ hsp hspR
  refine lv_iload hx hb dL_law_1114 (hL.at 6 rfl) ?_
  refine lv_icmp_eq (tgt := 1121) hx hb dL_law_1116 (by decide) (fun c1116 => ?_) (fun c1116 => ?_)
  · try dsimp only at c1116
    
    refine lv_iload hx hb dL_law_1121 (hL.at 6 rfl) ?_
    refine lv_if_ne (tgt := 1138) hx hb dL_law_1123 (by decide) (fun c1123 => ?_) (fun c1123 => ?_)
    · try dsimp only at c1123
      refine lv_goto (tgt := 2221) hx hb dL_law_1138 (by decide) ?_
      exact W.widen (by omega) (by omega) (kk MR adR ctR H locs ls (lI_end hlC hu.2.2 hfl hlR2 (hok.2 _ _ _ hspR) (e0.trans h0.2.2.2.2.2.1) hou) hW hS (hL.le (by repeat (first | exact kle_nil | refine kle_same ?_ | refine kle_drop ?_))))
    · try dsimp only at c1123
      refine lv_aload_n hx hb dL_law_1126 rfl (hL.at 3 rfl) ?_
      refine lv_iconst (v := 0) hx hb dL_law_1127 (by decide) ?_
      refine k_lald hx hb hK hW ((hfl 90 (by omega)).2.trans hou.1) 0 (by omega) (by omega) rfl dL_law_1128 ?_
      rw [hk0 c1123, hu.2.1 c1123]
      refine lv_iload hx hb dL_law_1129 (hL.at 7 rfl) ?_
      refine lv_i2l hx hb dL_law_1131 rfl ?_
      refine W.lcmp hx hb dL_law_1132 ?_
      refine lv_if_eq (tgt := 1138) hx hb dL_law_1133 (by decide) (fun c1133 => ?_) (fun c1133 => ?_)
      · try dsimp only at c1133
        
        refine lv_goto (tgt := 2221) hx hb dL_law_1138 (by decide) ?_
        exact W.widen (by omega) (by omega) (kk MR adR ctR H locs ls (lI_end hlC hu.2.2 hfl hlR2 (hok.2 _ _ _ hspR) (e0.trans h0.2.2.2.2.2.1) hou) hW hS (hL.le (by repeat (first | exact kle_nil | refine kle_same ?_ | refine kle_drop ?_))))
      · try dsimp only at c1133
        exact absurd (lg_self _) c1133
  · try dsimp only at c1116
    exact absurd hu.1.symm c1116

set_option maxHeartbeats 4000000 in
set_option maxRecDepth 100000 in
theorem L_pass {l : Launch} {D : va_G} {cy : Nat → ClassId} {sad : Nat → Nat} {em : Nat} {s0 : State} {a0 : Array Value} (G : kG kSTR l D cy sad em s0 a0) {p : Program} {e : Env} {s : State} {m : MethodId} {args : Array Value} {below : List Frame} {meth : Method} {c : Code} {H : Heap} {locs : List Loc} {cells slots : Nat} {Q : State → Prop} {ls : Array Slot} {b L : Nat} {xs : Nat → Int32} {nb : Nat} {M : tM} {ad : Nat → Nat} {ct : Nat → Option va_E}
    (hx : p.tables.exec = Jvm.exec) (hb : c.code = cL_law) (hml : c.maxLocals = 10) (hown : s.vm.findClass "TailorBenchLaw" = some m.cls) (hts : ∀ w ∈ gT, w.before args s = true) (hq : ∀ w ∈ lw_tbl, kgood w = true → w.before args s = true) (hK : va_K D vwCl (ktys cy) s) (hI : kI s0 s) (hX : va_X b L xs s s.heap) (hbl : b < s.heap.size) (hbA : ¬ kA s0 b) (hnb : 7 * nb + 7 ≤ L) (hL3 : L ≤ 3584) (h0 : lI cy em nb M ad ct) (hW : kW D s0.heap.size ad ct H) (hS : va_S (kA s0) s.heap H locs) (hL : lvP ls 10 [some (.ref b), some (.ref (ad 1)), some (.ref (ad 100)), some (.ref (ad 90)), some (.ref (ad 91)), some (.int (nI (7 * nb))), none, none, none, none]) (hcl : cells + 900 ≤ 601024) (hsl : slots + 13100 ≤ 7293034)
    {sp : Int32 → UInt64 → tM → Prop} (hok : spOk nb sp)
    (hC : KM l yL_pass [.codeWith yL_pass method_15_code 4 (some .int) [(0, 8, 11, 13)]] 7 111 1 6 [.ref (ad 1), .int (xs (7 * nb + 1)), .ref (ad 91)] D s0 ad ct (oCd cy ad M sp))
    (hR : ∀ (adC : Nat → Nat) (ctC : Nat → Option va_E), lR cy adC ctC M → adC 0 = em → KM l yX11_pass [.code yX11_pass prog_10_method_35_code 2 (some .double)] 2 60 0 0 [.ref (adC 100), .int (xs (7 * nb + 1))] D s0 adC ctC (oRd cy adC ctC sp))
    (kk : ∀ (M' : tM) (ad' : Nat → Nat) (ct' : Nat → Option va_E) (H' : Heap) (locs' : List Loc) (ls' : Array Slot), lI cy em (nb + 1) M' ad' ct' → kW D s0.heap.size ad' ct' H' → va_S (kA s0) s.heap H' locs' → lvP ls' 10 [some (.ref b), some (.ref (ad' 1)), some (.ref (ad' 100)), some (.ref (ad' 90)), some (.ref (ad' 91)), some (.int (nI (7 * nb))), none, none, none, none] → W p l e room_1 s m args below meth c H' locs' (cells + 900) (slots + 13100) Q (F0 m 2221 ls' [])) :
    W p l e room_1 s m args below meth c H locs cells slots Q (F0 m 1141 ls []) := by
  refine lv_aload_n hx hb dL_law_1141 rfl (hL.at 1 rfl) ?_
  refine lv_aload_n hx hb dL_law_1142 rfl (hL.at 0 rfl) ?_
  refine lv_iload hx hb dL_law_1143 (hL.at 5 rfl) ?_
  refine lv_iconst (v := 1) hx hb dL_law_1145 (by decide) ?_
  refine lv_iadd hx hb dL_law_1146 ?_
  refine k_sld hx hb hX hbl hbA hS (k := 1) rfl (by omega) hL3 dL_law_1147 ?_
  refine lv_aload hx hb dL_law_1148 (hL.at 4 rfl) ?_
  refine k_callSH hx hb hml hown hts hI hS hW hL.1 hC (m4 (gT_in q771 rfl) (gT_in q772 rfl) (gT_in q54 rfl) (gT_in q773 rfl)) (show kpar yL_pass 3 from ⟨by decide, by decide, by decide +kernel⟩) (by first | exact ⟨by decide, by decide⟩ | exact ⟨Nat.le_of_ble_eq_true rfl, Nat.le_of_ble_eq_true rfl⟩) (by show _ ≤ 601024; omega) (by show _ ≤ 7293034; omega) rfl (by decide) dL_law_1150 (fun v adC ctC H locs hp hW hS => ?_)
  obtain ⟨kc, a, MC, fo, fd, rfl, hlC, hlR, ⟨e0, e1, e100, e90, e91⟩, hou, hk0, hsp⟩ := hp
  rw [← e1, ← e100, ← e90, ← e91] at hL
  obtain ⟨⟨th0, sm0, hm100⟩, -⟩ := id hlR
  refine k_ist hx hb hL (i := 6) (by decide) dL_law_1153 (fun ls hL => ?_)
  replace hL := hL.nrm (l' := [some _, some _, some _, some _, some _, some _, some _, none, none, none]) rfl
  refine lv_aload_n hx hb dL_law_1155 rfl (hL.at 2 rfl) ?_
  refine lv_aload_n hx hb dL_law_1156 rfl (hL.at 0 rfl) ?_
  refine lv_iload hx hb dL_law_1157 (hL.at 5 rfl) ?_
  refine lv_iconst (v := 1) hx hb dL_law_1159 (by decide) ?_
  refine lv_iadd hx hb dL_law_1160 ?_
  refine k_sld hx hb hX hbl hbA hS (k := 1) rfl (by omega) hL3 dL_law_1161 ?_
  refine k_callV (q := (RX11, TX11, 13)) hx hb hml hown hts hK hI hS hW hL.1 (hm100) rfl (hR adC ctC hlR (e0.trans h0.2.2.2.2.2.1)) (m5 (gT_in q1312 rfl) (gT_in q1313 rfl) (gT_in q1314 rfl) (gT_in q57 rfl) (gT_in q1315 rfl)) rfl (show kpar yX11_pass 1 from ⟨by decide, by decide, by decide +kernel⟩) (by first | exact ⟨by decide, by decide⟩ | exact ⟨Nat.le_of_ble_eq_true rfl, Nat.le_of_ble_eq_true rfl⟩) (by show _ ≤ 601024; omega) (by show _ ≤ 7293034; omega) rfl (by decide) dL_law_1162 (fun v adR ctR H locs hp hW hS => ?_)
  obtain ⟨bb, th, sm, MR, rfl, hmR, hlR2, hfl, f100, hspR⟩ := hp
  rw [← f100, ← (hfl 1 (by omega)).1, ← (hfl 90 (by omega)).1, ← (hfl 91 (by omega)).1] at hL
  refine k_dst hx hb hL (i := 7) (by decide) dL_law_1165 (fun ls hL => ?_)
  replace hL := hL.nrm (l' := [some _, some _, some _, some _, some _, some _, some _, some _, none, none]) rfl
  refine lv_aload_n hx hb dL_law_1167 rfl (hL.at 2 rfl) ?_
  refine k_callV (q := (RX11, TX11, 13)) hx hb hml hown hts hK hI hS hW hL.1 (hmR) rfl (r_thrown G hmR) (m5 (gT_in q912 rfl) (gT_in q913 rfl) (gT_in q914 rfl) (gT_in q57 rfl) (gT_in q915 rfl)) rfl (show kpar yX11_thrown 0 from ⟨by decide, by decide, by decide +kernel⟩) (by first | exact ⟨by decide, by decide⟩ | exact ⟨Nat.le_of_ble_eq_true rfl, Nat.le_of_ble_eq_true rfl⟩) (by show _ ≤ 601024; omega) (by show _ ≤ 7293034; omega) rfl (by decide) dL_law_1168 (fun v adT ctT H locs hp hW hS => ?_)
  obtain ⟨rfl, h1, h2⟩ := hp
  rw [h1, h2] at hW
  have hu := hok.1 _ _ _ _ _ _ hsp hspR
  refine lv_iload hx hb dL_law_1171 (hL.at 6 rfl) ?_
  refine lv_icmp_eq (tgt := 1178) hx hb dL_law_1173 (by decide) (fun c1173 => ?_) (fun c1173 => ?_)
  · try dsimp only at c1173
    
    refine lv_iload hx hb dL_law_1178 (hL.at 6 rfl) ?_
    refine lv_if_ne (tgt := 1215) hx hb dL_law_1180 (by decide) (fun c1180 => ?_) (fun c1180 => ?_)
    · try dsimp only at c1180
      refine lv_goto (tgt := 2221) hx hb dL_law_1215 (by decide) ?_
      exact W.widen (by omega) (by omega) (kk MR adR ctR H locs ls (lI_end hlC hu.2.2 hfl hlR2 (hok.2 _ _ _ hspR) (e0.trans h0.2.2.2.2.2.1) hou) hW hS (hL.le (by repeat (first | exact kle_nil | refine kle_same ?_ | refine kle_drop ?_))))
    · try dsimp only at c1180
      refine lv_aload hx hb dL_law_1183 (hL.at 4 rfl) ?_
      refine lv_iconst (v := 0) hx hb dL_law_1185 (by decide) ?_
      refine k_dald hx hb hK hW ((hfl 91 (by omega)).2.trans hou.2) 0 (by omega) (by omega) rfl dL_law_1186 ?_
      rw [hk0 c1180, hu.2.1 c1180]
      refine lv_dload hx hb dL_law_1187 (hL.at 7 rfl) ?_
      refine lv_dcmp hx hb dL_law_1189 ?_
      refine lv_if_eq (tgt := 1215) hx hb dL_law_1190 (by decide) (fun c1190 => ?_) (fun c1190 => ?_)
      · rw [cl_eq] at c1190
        
        refine lv_goto (tgt := 2221) hx hb dL_law_1215 (by decide) ?_
        exact W.widen (by omega) (by omega) (kk MR adR ctR H locs ls (lI_end hlC hu.2.2 hfl hlR2 (hok.2 _ _ _ hspR) (e0.trans h0.2.2.2.2.2.1) hou) hW hS (hL.le (by repeat (first | exact kle_nil | refine kle_same ?_ | refine kle_drop ?_))))
      · rw [cl_eq] at c1190
        
        refine lv_aload hx hb dL_law_1193 (hL.at 4 rfl) ?_
        refine lv_iconst (v := 0) hx hb dL_law_1195 (by decide) ?_
        refine k_dald hx hb hK hW ((hfl 91 (by omega)).2.trans hou.2) 0 (by omega) (by omega) rfl dL_law_1196 ?_
        rw [hk0 c1180, hu.2.1 c1180]
        refine lv_aload hx hb dL_law_1197 (hL.at 4 rfl) ?_
        refine lv_iconst (v := 0) hx hb dL_law_1199 (by decide) ?_
        refine k_dald hx hb hK hW ((hfl 91 (by omega)).2.trans hou.2) 0 (by omega) (by omega) rfl dL_law_1200 ?_
        rw [hk0 c1180, hu.2.1 c1180]
        refine lv_dcmp hx hb dL_law_1201 ?_
        refine lv_if_eq (tgt := 1213) hx hb dL_law_1202 (by decide) (fun c1202 => ?_) (fun c1202 => ?_)
        · rw [cl_eq] at c1202
          exact absurd c1202 c1190
        · rw [cl_eq] at c1202
          
          refine lv_dload hx hb dL_law_1205 (hL.at 7 rfl) ?_
          refine lv_dload hx hb dL_law_1207 (hL.at 7 rfl) ?_
          refine lv_dcmp hx hb dL_law_1209 ?_
          refine lv_if_ne (tgt := 1215) hx hb dL_law_1210 (by decide) (fun c1210 => ?_) (fun c1210 => ?_)
          · rw [cl_eq] at c1210
            
            refine lv_goto (tgt := 2221) hx hb dL_law_1215 (by decide) ?_
            exact W.widen (by omega) (by omega) (kk MR adR ctR H locs ls (lI_end hlC hu.2.2 hfl hlR2 (hok.2 _ _ _ hspR) (e0.trans h0.2.2.2.2.2.1) hou) hW hS (hL.le (by repeat (first | exact kle_nil | refine kle_same ?_ | refine kle_drop ?_))))
          · rw [cl_eq] at c1210
            exact absurd (by first | exact c1210 | exact Decidable.not_not.mp c1210) c1190
  · try dsimp only at c1173
    exact absurd hu.1.symm c1173

set_option maxHeartbeats 4000000 in
set_option maxRecDepth 100000 in
theorem L_ofCloth {l : Launch} {D : va_G} {cy : Nat → ClassId} {sad : Nat → Nat} {em : Nat} {s0 : State} {a0 : Array Value} (G : kG kSTR l D cy sad em s0 a0) {p : Program} {e : Env} {s : State} {m : MethodId} {args : Array Value} {below : List Frame} {meth : Method} {c : Code} {H : Heap} {locs : List Loc} {cells slots : Nat} {Q : State → Prop} {ls : Array Slot} {b L : Nat} {xs : Nat → Int32} {nb : Nat} {M : tM} {ad : Nat → Nat} {ct : Nat → Option va_E}
    (hx : p.tables.exec = Jvm.exec) (hb : c.code = cL_law) (hml : c.maxLocals = 10) (hown : s.vm.findClass "TailorBenchLaw" = some m.cls) (hts : ∀ w ∈ gT, w.before args s = true) (hq : ∀ w ∈ lw_tbl, kgood w = true → w.before args s = true) (hK : va_K D vwCl (ktys cy) s) (hI : kI s0 s) (hX : va_X b L xs s s.heap) (hbl : b < s.heap.size) (hbA : ¬ kA s0 b) (hnb : 7 * nb + 7 ≤ L) (hL3 : L ≤ 3584) (h0 : lI cy em nb M ad ct) (hW : kW D s0.heap.size ad ct H) (hS : va_S (kA s0) s.heap H locs) (hL : lvP ls 10 [some (.ref b), some (.ref (ad 1)), some (.ref (ad 100)), some (.ref (ad 90)), some (.ref (ad 91)), some (.int (nI (7 * nb))), none, none, none, none]) (hcl : cells + 900 ≤ 601024) (hsl : slots + 13100 ≤ 7293034)
    {sp : Int32 → UInt64 → tM → Prop} (hok : spOk nb sp)
    (hC : KM l yL_ofCloth [.codeWith yL_ofCloth method_16_code 5 (some .int) [(0, 9, 12, 21), (0, 9, 16, 13)]] 8 143 2 12 [.ref (ad 1), .int (xs (7 * nb + 1)), .int (xs (7 * nb + 2)), .ref (ad 91)] D s0 ad ct (oCd cy ad M sp))
    (hR : ∀ (adC : Nat → Nat) (ctC : Nat → Option va_E), lR cy adC ctC M → adC 0 = em → KM l yX11_ofCloth [.code yX11_ofCloth prog_10_method_39_code 3 (some .double)] 4 120 1 6 [.ref (adC 100), .int (xs (7 * nb + 1)), .int (xs (7 * nb + 2))] D s0 adC ctC (oRd cy adC ctC sp))
    (kk : ∀ (M' : tM) (ad' : Nat → Nat) (ct' : Nat → Option va_E) (H' : Heap) (locs' : List Loc) (ls' : Array Slot), lI cy em (nb + 1) M' ad' ct' → kW D s0.heap.size ad' ct' H' → va_S (kA s0) s.heap H' locs' → lvP ls' 10 [some (.ref b), some (.ref (ad' 1)), some (.ref (ad' 100)), some (.ref (ad' 90)), some (.ref (ad' 91)), some (.int (nI (7 * nb))), none, none, none, none] → W p l e room_1 s m args below meth c H' locs' (cells + 900) (slots + 13100) Q (F0 m 2221 ls' [])) :
    W p l e room_1 s m args below meth c H locs cells slots Q (F0 m 1272 ls []) := by
  refine lv_aload_n hx hb dL_law_1272 rfl (hL.at 1 rfl) ?_
  refine lv_aload_n hx hb dL_law_1273 rfl (hL.at 0 rfl) ?_
  refine lv_iload hx hb dL_law_1274 (hL.at 5 rfl) ?_
  refine lv_iconst (v := 1) hx hb dL_law_1276 (by decide) ?_
  refine lv_iadd hx hb dL_law_1277 ?_
  refine k_sld hx hb hX hbl hbA hS (k := 1) rfl (by omega) hL3 dL_law_1278 ?_
  refine lv_aload_n hx hb dL_law_1279 rfl (hL.at 0 rfl) ?_
  refine lv_iload hx hb dL_law_1280 (hL.at 5 rfl) ?_
  refine lv_iconst (v := 2) hx hb dL_law_1282 (by decide) ?_
  refine lv_iadd hx hb dL_law_1283 ?_
  refine k_sld hx hb hX hbl hbA hS (k := 2) rfl (by omega) hL3 dL_law_1284 ?_
  refine lv_aload hx hb dL_law_1285 (hL.at 4 rfl) ?_
  refine k_callSH hx hb hml hown hts hI hS hW hL.1 hC (m4 (gT_in q779 rfl) (gT_in q780 rfl) (gT_in q54 rfl) (gT_in q781 rfl)) (show kpar yL_ofCloth 4 from ⟨by decide, by decide, by decide +kernel⟩) (by first | exact ⟨by decide, by decide⟩ | exact ⟨Nat.le_of_ble_eq_true rfl, Nat.le_of_ble_eq_true rfl⟩) (by show _ ≤ 601024; omega) (by show _ ≤ 7293034; omega) rfl (by decide) dL_law_1287 (fun v adC ctC H locs hp hW hS => ?_)
  obtain ⟨kc, a, MC, fo, fd, rfl, hlC, hlR, ⟨e0, e1, e100, e90, e91⟩, hou, hk0, hsp⟩ := hp
  rw [← e1, ← e100, ← e90, ← e91] at hL
  obtain ⟨⟨th0, sm0, hm100⟩, -⟩ := id hlR
  refine k_ist hx hb hL (i := 6) (by decide) dL_law_1290 (fun ls hL => ?_)
  replace hL := hL.nrm (l' := [some _, some _, some _, some _, some _, some _, some _, none, none, none]) rfl
  refine lv_aload_n hx hb dL_law_1292 rfl (hL.at 2 rfl) ?_
  refine lv_aload_n hx hb dL_law_1293 rfl (hL.at 0 rfl) ?_
  refine lv_iload hx hb dL_law_1294 (hL.at 5 rfl) ?_
  refine lv_iconst (v := 1) hx hb dL_law_1296 (by decide) ?_
  refine lv_iadd hx hb dL_law_1297 ?_
  refine k_sld hx hb hX hbl hbA hS (k := 1) rfl (by omega) hL3 dL_law_1298 ?_
  refine lv_aload_n hx hb dL_law_1299 rfl (hL.at 0 rfl) ?_
  refine lv_iload hx hb dL_law_1300 (hL.at 5 rfl) ?_
  refine lv_iconst (v := 2) hx hb dL_law_1302 (by decide) ?_
  refine lv_iadd hx hb dL_law_1303 ?_
  refine k_sld hx hb hX hbl hbA hS (k := 2) rfl (by omega) hL3 dL_law_1304 ?_
  refine k_callV (q := (RX11, TX11, 13)) hx hb hml hown hts hK hI hS hW hL.1 (hm100) rfl (hR adC ctC hlR (e0.trans h0.2.2.2.2.2.1)) (m5 (gT_in q1324 rfl) (gT_in q1325 rfl) (gT_in q1326 rfl) (gT_in q57 rfl) (gT_in q1327 rfl)) rfl (show kpar yX11_ofCloth 2 from ⟨by decide, by decide, by decide +kernel⟩) (by first | exact ⟨by decide, by decide⟩ | exact ⟨Nat.le_of_ble_eq_true rfl, Nat.le_of_ble_eq_true rfl⟩) (by show _ ≤ 601024; omega) (by show _ ≤ 7293034; omega) rfl (by decide) dL_law_1305 (fun v adR ctR H locs hp hW hS => ?_)
  obtain ⟨bb, th, sm, MR, rfl, hmR, hlR2, hfl, f100, hspR⟩ := hp
  rw [← f100, ← (hfl 1 (by omega)).1, ← (hfl 90 (by omega)).1, ← (hfl 91 (by omega)).1] at hL
  refine k_dst hx hb hL (i := 7) (by decide) dL_law_1308 (fun ls hL => ?_)
  replace hL := hL.nrm (l' := [some _, some _, some _, some _, some _, some _, some _, some _, none, none]) rfl
  refine lv_aload_n hx hb dL_law_1310 rfl (hL.at 2 rfl) ?_
  refine k_callV (q := (RX11, TX11, 13)) hx hb hml hown hts hK hI hS hW hL.1 (hmR) rfl (r_thrown G hmR) (m5 (gT_in q912 rfl) (gT_in q913 rfl) (gT_in q914 rfl) (gT_in q57 rfl) (gT_in q915 rfl)) rfl (show kpar yX11_thrown 0 from ⟨by decide, by decide, by decide +kernel⟩) (by first | exact ⟨by decide, by decide⟩ | exact ⟨Nat.le_of_ble_eq_true rfl, Nat.le_of_ble_eq_true rfl⟩) (by show _ ≤ 601024; omega) (by show _ ≤ 7293034; omega) rfl (by decide) dL_law_1311 (fun v adT ctT H locs hp hW hS => ?_)
  obtain ⟨rfl, h1, h2⟩ := hp
  rw [h1, h2] at hW
  have hu := hok.1 _ _ _ _ _ _ hsp hspR
  refine lv_iload hx hb dL_law_1314 (hL.at 6 rfl) ?_
  refine lv_icmp_eq (tgt := 1321) hx hb dL_law_1316 (by decide) (fun c1316 => ?_) (fun c1316 => ?_)
  · try dsimp only at c1316
    
    refine lv_iload hx hb dL_law_1321 (hL.at 6 rfl) ?_
    refine lv_if_ne (tgt := 1358) hx hb dL_law_1323 (by decide) (fun c1323 => ?_) (fun c1323 => ?_)
    · try dsimp only at c1323
      refine lv_goto (tgt := 2221) hx hb dL_law_1358 (by decide) ?_
      exact W.widen (by omega) (by omega) (kk MR adR ctR H locs ls (lI_end hlC hu.2.2 hfl hlR2 (hok.2 _ _ _ hspR) (e0.trans h0.2.2.2.2.2.1) hou) hW hS (hL.le (by repeat (first | exact kle_nil | refine kle_same ?_ | refine kle_drop ?_))))
    · try dsimp only at c1323
      refine lv_aload hx hb dL_law_1326 (hL.at 4 rfl) ?_
      refine lv_iconst (v := 0) hx hb dL_law_1328 (by decide) ?_
      refine k_dald hx hb hK hW ((hfl 91 (by omega)).2.trans hou.2) 0 (by omega) (by omega) rfl dL_law_1329 ?_
      rw [hk0 c1323, hu.2.1 c1323]
      refine lv_dload hx hb dL_law_1330 (hL.at 7 rfl) ?_
      refine lv_dcmp hx hb dL_law_1332 ?_
      refine lv_if_eq (tgt := 1358) hx hb dL_law_1333 (by decide) (fun c1333 => ?_) (fun c1333 => ?_)
      · rw [cl_eq] at c1333
        
        refine lv_goto (tgt := 2221) hx hb dL_law_1358 (by decide) ?_
        exact W.widen (by omega) (by omega) (kk MR adR ctR H locs ls (lI_end hlC hu.2.2 hfl hlR2 (hok.2 _ _ _ hspR) (e0.trans h0.2.2.2.2.2.1) hou) hW hS (hL.le (by repeat (first | exact kle_nil | refine kle_same ?_ | refine kle_drop ?_))))
      · rw [cl_eq] at c1333
        
        refine lv_aload hx hb dL_law_1336 (hL.at 4 rfl) ?_
        refine lv_iconst (v := 0) hx hb dL_law_1338 (by decide) ?_
        refine k_dald hx hb hK hW ((hfl 91 (by omega)).2.trans hou.2) 0 (by omega) (by omega) rfl dL_law_1339 ?_
        rw [hk0 c1323, hu.2.1 c1323]
        refine lv_aload hx hb dL_law_1340 (hL.at 4 rfl) ?_
        refine lv_iconst (v := 0) hx hb dL_law_1342 (by decide) ?_
        refine k_dald hx hb hK hW ((hfl 91 (by omega)).2.trans hou.2) 0 (by omega) (by omega) rfl dL_law_1343 ?_
        rw [hk0 c1323, hu.2.1 c1323]
        refine lv_dcmp hx hb dL_law_1344 ?_
        refine lv_if_eq (tgt := 1356) hx hb dL_law_1345 (by decide) (fun c1345 => ?_) (fun c1345 => ?_)
        · rw [cl_eq] at c1345
          exact absurd c1345 c1333
        · rw [cl_eq] at c1345
          
          refine lv_dload hx hb dL_law_1348 (hL.at 7 rfl) ?_
          refine lv_dload hx hb dL_law_1350 (hL.at 7 rfl) ?_
          refine lv_dcmp hx hb dL_law_1352 ?_
          refine lv_if_ne (tgt := 1358) hx hb dL_law_1353 (by decide) (fun c1353 => ?_) (fun c1353 => ?_)
          · rw [cl_eq] at c1353
            
            refine lv_goto (tgt := 2221) hx hb dL_law_1358 (by decide) ?_
            exact W.widen (by omega) (by omega) (kk MR adR ctR H locs ls (lI_end hlC hu.2.2 hfl hlR2 (hok.2 _ _ _ hspR) (e0.trans h0.2.2.2.2.2.1) hou) hW hS (hL.le (by repeat (first | exact kle_nil | refine kle_same ?_ | refine kle_drop ?_))))
          · rw [cl_eq] at c1353
            exact absurd (by first | exact c1353 | exact Decidable.not_not.mp c1353) c1333
  · try dsimp only at c1316
    exact absurd hu.1.symm c1316

set_option maxHeartbeats 4000000 in
set_option maxRecDepth 100000 in
theorem L_size {l : Launch} {D : va_G} {cy : Nat → ClassId} {sad : Nat → Nat} {em : Nat} {s0 : State} {a0 : Array Value} (G : kG kSTR l D cy sad em s0 a0) {p : Program} {e : Env} {s : State} {m : MethodId} {args : Array Value} {below : List Frame} {meth : Method} {c : Code} {H : Heap} {locs : List Loc} {cells slots : Nat} {Q : State → Prop} {ls : Array Slot} {b L : Nat} {xs : Nat → Int32} {nb : Nat} {M : tM} {ad : Nat → Nat} {ct : Nat → Option va_E}
    (hx : p.tables.exec = Jvm.exec) (hb : c.code = cL_law) (hml : c.maxLocals = 10) (hown : s.vm.findClass "TailorBenchLaw" = some m.cls) (hts : ∀ w ∈ gT, w.before args s = true) (hq : ∀ w ∈ lw_tbl, kgood w = true → w.before args s = true) (hK : va_K D vwCl (ktys cy) s) (hI : kI s0 s) (hX : va_X b L xs s s.heap) (hbl : b < s.heap.size) (hbA : ¬ kA s0 b) (hnb : 7 * nb + 7 ≤ L) (hL3 : L ≤ 3584) (h0 : lI cy em nb M ad ct) (hW : kW D s0.heap.size ad ct H) (hS : va_S (kA s0) s.heap H locs) (hL : lvP ls 10 [some (.ref b), some (.ref (ad 1)), some (.ref (ad 100)), some (.ref (ad 90)), some (.ref (ad 91)), some (.int (nI (7 * nb))), none, none, none, none]) (hcl : cells + 900 ≤ 601024) (hsl : slots + 13100 ≤ 7293034)
    {sp : Int32 → UInt64 → tM → Prop} (hok : spOk nb sp)
    (hC : KM l yL_size [.codeWith yL_size method_17_code 7 (some .int) [(0, 13, 16, 21)]] 8 147 2 12 [.ref (ad 1), .int (xs (7 * nb + 1)), .int (xs (7 * nb + 2)), .int (xs (7 * nb + 3)), .int (fBo (xs (7 * nb + 4))), .ref (ad 91)] D s0 ad ct (oCd cy ad M sp))
    (hR : ∀ (adC : Nat → Nat) (ctC : Nat → Option va_E), lR cy adC ctC M → adC 0 = em → KM l yX11_size [.code yX11_size prog_10_method_40_code 6 (some .double)] 6 200 0 0 [.ref (adC 100), .int (xs (7 * nb + 1)), .int (xs (7 * nb + 2)), .int (xs (7 * nb + 3)), .int (fBo (xs (7 * nb + 4)))] D s0 adC ctC (oRd cy adC ctC sp))
    (kk : ∀ (M' : tM) (ad' : Nat → Nat) (ct' : Nat → Option va_E) (H' : Heap) (locs' : List Loc) (ls' : Array Slot), lI cy em (nb + 1) M' ad' ct' → kW D s0.heap.size ad' ct' H' → va_S (kA s0) s.heap H' locs' → lvP ls' 10 [some (.ref b), some (.ref (ad' 1)), some (.ref (ad' 100)), some (.ref (ad' 90)), some (.ref (ad' 91)), some (.int (nI (7 * nb))), none, none, none, none] → W p l e room_1 s m args below meth c H' locs' (cells + 900) (slots + 13100) Q (F0 m 2221 ls' [])) :
    W p l e room_1 s m args below meth c H locs cells slots Q (F0 m 1361 ls []) := by
  refine lv_aload_n hx hb dL_law_1361 rfl (hL.at 1 rfl) ?_
  refine lv_aload_n hx hb dL_law_1362 rfl (hL.at 0 rfl) ?_
  refine lv_iload hx hb dL_law_1363 (hL.at 5 rfl) ?_
  refine lv_iconst (v := 1) hx hb dL_law_1365 (by decide) ?_
  refine lv_iadd hx hb dL_law_1366 ?_
  refine k_sld hx hb hX hbl hbA hS (k := 1) rfl (by omega) hL3 dL_law_1367 ?_
  refine lv_aload_n hx hb dL_law_1368 rfl (hL.at 0 rfl) ?_
  refine lv_iload hx hb dL_law_1369 (hL.at 5 rfl) ?_
  refine lv_iconst (v := 2) hx hb dL_law_1371 (by decide) ?_
  refine lv_iadd hx hb dL_law_1372 ?_
  refine k_sld hx hb hX hbl hbA hS (k := 2) rfl (by omega) hL3 dL_law_1373 ?_
  refine lv_aload_n hx hb dL_law_1374 rfl (hL.at 0 rfl) ?_
  refine lv_iload hx hb dL_law_1375 (hL.at 5 rfl) ?_
  refine lv_iconst (v := 3) hx hb dL_law_1377 (by decide) ?_
  refine lv_iadd hx hb dL_law_1378 ?_
  refine k_sld hx hb hX hbl hbA hS (k := 3) rfl (by omega) hL3 dL_law_1379 ?_
  refine lv_aload_n hx hb dL_law_1380 rfl (hL.at 0 rfl) ?_
  refine lv_iload hx hb dL_law_1381 (hL.at 5 rfl) ?_
  refine lv_iconst (v := 4) hx hb dL_law_1383 (by decide) ?_
  refine lv_iadd hx hb dL_law_1384 ?_
  refine k_sld hx hb hX hbl hbA hS (k := 4) rfl (by omega) hL3 dL_law_1385 ?_
  refine k_bool hx hb dL_law_1386 dL_law_1389 dL_law_1390 dL_law_1393 ?_
  refine lv_aload hx hb dL_law_1394 (hL.at 4 rfl) ?_
  refine k_callSH hx hb hml hown hts hI hS hW hL.1 hC (m4 (gT_in q783 rfl) (gT_in q784 rfl) (gT_in q54 rfl) (gT_in q785 rfl)) (show kpar yL_size 6 from ⟨by decide, by decide, by decide +kernel⟩) (by first | exact ⟨by decide, by decide⟩ | exact ⟨Nat.le_of_ble_eq_true rfl, Nat.le_of_ble_eq_true rfl⟩) (by show _ ≤ 601024; omega) (by show _ ≤ 7293034; omega) rfl (by decide) dL_law_1396 (fun v adC ctC H locs hp hW hS => ?_)
  obtain ⟨kc, a, MC, fo, fd, rfl, hlC, hlR, ⟨e0, e1, e100, e90, e91⟩, hou, hk0, hsp⟩ := hp
  rw [← e1, ← e100, ← e90, ← e91] at hL
  obtain ⟨⟨th0, sm0, hm100⟩, -⟩ := id hlR
  refine k_ist hx hb hL (i := 6) (by decide) dL_law_1399 (fun ls hL => ?_)
  replace hL := hL.nrm (l' := [some _, some _, some _, some _, some _, some _, some _, none, none, none]) rfl
  refine lv_aload_n hx hb dL_law_1401 rfl (hL.at 2 rfl) ?_
  refine lv_aload_n hx hb dL_law_1402 rfl (hL.at 0 rfl) ?_
  refine lv_iload hx hb dL_law_1403 (hL.at 5 rfl) ?_
  refine lv_iconst (v := 1) hx hb dL_law_1405 (by decide) ?_
  refine lv_iadd hx hb dL_law_1406 ?_
  refine k_sld hx hb hX hbl hbA hS (k := 1) rfl (by omega) hL3 dL_law_1407 ?_
  refine lv_aload_n hx hb dL_law_1408 rfl (hL.at 0 rfl) ?_
  refine lv_iload hx hb dL_law_1409 (hL.at 5 rfl) ?_
  refine lv_iconst (v := 2) hx hb dL_law_1411 (by decide) ?_
  refine lv_iadd hx hb dL_law_1412 ?_
  refine k_sld hx hb hX hbl hbA hS (k := 2) rfl (by omega) hL3 dL_law_1413 ?_
  refine lv_aload_n hx hb dL_law_1414 rfl (hL.at 0 rfl) ?_
  refine lv_iload hx hb dL_law_1415 (hL.at 5 rfl) ?_
  refine lv_iconst (v := 3) hx hb dL_law_1417 (by decide) ?_
  refine lv_iadd hx hb dL_law_1418 ?_
  refine k_sld hx hb hX hbl hbA hS (k := 3) rfl (by omega) hL3 dL_law_1419 ?_
  refine lv_aload_n hx hb dL_law_1420 rfl (hL.at 0 rfl) ?_
  refine lv_iload hx hb dL_law_1421 (hL.at 5 rfl) ?_
  refine lv_iconst (v := 4) hx hb dL_law_1423 (by decide) ?_
  refine lv_iadd hx hb dL_law_1424 ?_
  refine k_sld hx hb hX hbl hbA hS (k := 4) rfl (by omega) hL3 dL_law_1425 ?_
  refine k_bool hx hb dL_law_1426 dL_law_1429 dL_law_1430 dL_law_1433 ?_
  refine k_callV (q := (RX11, TX11, 13)) hx hb hml hown hts hK hI hS hW hL.1 (hm100) rfl (hR adC ctC hlR (e0.trans h0.2.2.2.2.2.1)) (m5 (gT_in q1332 rfl) (gT_in q1333 rfl) (gT_in q1334 rfl) (gT_in q57 rfl) (gT_in q1335 rfl)) rfl (show kpar yX11_size 4 from ⟨by decide, by decide, by decide +kernel⟩) (by first | exact ⟨by decide, by decide⟩ | exact ⟨Nat.le_of_ble_eq_true rfl, Nat.le_of_ble_eq_true rfl⟩) (by show _ ≤ 601024; omega) (by show _ ≤ 7293034; omega) rfl (by decide) dL_law_1434 (fun v adR ctR H locs hp hW hS => ?_)
  obtain ⟨bb, th, sm, MR, rfl, hmR, hlR2, hfl, f100, hspR⟩ := hp
  rw [← f100, ← (hfl 1 (by omega)).1, ← (hfl 90 (by omega)).1, ← (hfl 91 (by omega)).1] at hL
  refine k_dst hx hb hL (i := 7) (by decide) dL_law_1437 (fun ls hL => ?_)
  replace hL := hL.nrm (l' := [some _, some _, some _, some _, some _, some _, some _, some _, none, none]) rfl
  refine lv_aload_n hx hb dL_law_1439 rfl (hL.at 2 rfl) ?_
  refine k_callV (q := (RX11, TX11, 13)) hx hb hml hown hts hK hI hS hW hL.1 (hmR) rfl (r_thrown G hmR) (m5 (gT_in q912 rfl) (gT_in q913 rfl) (gT_in q914 rfl) (gT_in q57 rfl) (gT_in q915 rfl)) rfl (show kpar yX11_thrown 0 from ⟨by decide, by decide, by decide +kernel⟩) (by first | exact ⟨by decide, by decide⟩ | exact ⟨Nat.le_of_ble_eq_true rfl, Nat.le_of_ble_eq_true rfl⟩) (by show _ ≤ 601024; omega) (by show _ ≤ 7293034; omega) rfl (by decide) dL_law_1440 (fun v adT ctT H locs hp hW hS => ?_)
  obtain ⟨rfl, h1, h2⟩ := hp
  rw [h1, h2] at hW
  have hu := hok.1 _ _ _ _ _ _ hsp hspR
  refine lv_iload hx hb dL_law_1443 (hL.at 6 rfl) ?_
  refine lv_icmp_eq (tgt := 1450) hx hb dL_law_1445 (by decide) (fun c1445 => ?_) (fun c1445 => ?_)
  · try dsimp only at c1445
    
    refine lv_iload hx hb dL_law_1450 (hL.at 6 rfl) ?_
    refine lv_if_ne (tgt := 1487) hx hb dL_law_1452 (by decide) (fun c1452 => ?_) (fun c1452 => ?_)
    · try dsimp only at c1452
      refine lv_goto (tgt := 2221) hx hb dL_law_1487 (by decide) ?_
      exact W.widen (by omega) (by omega) (kk MR adR ctR H locs ls (lI_end hlC hu.2.2 hfl hlR2 (hok.2 _ _ _ hspR) (e0.trans h0.2.2.2.2.2.1) hou) hW hS (hL.le (by repeat (first | exact kle_nil | refine kle_same ?_ | refine kle_drop ?_))))
    · try dsimp only at c1452
      refine lv_aload hx hb dL_law_1455 (hL.at 4 rfl) ?_
      refine lv_iconst (v := 0) hx hb dL_law_1457 (by decide) ?_
      refine k_dald hx hb hK hW ((hfl 91 (by omega)).2.trans hou.2) 0 (by omega) (by omega) rfl dL_law_1458 ?_
      rw [hk0 c1452, hu.2.1 c1452]
      refine lv_dload hx hb dL_law_1459 (hL.at 7 rfl) ?_
      refine lv_dcmp hx hb dL_law_1461 ?_
      refine lv_if_eq (tgt := 1487) hx hb dL_law_1462 (by decide) (fun c1462 => ?_) (fun c1462 => ?_)
      · rw [cl_eq] at c1462
        
        refine lv_goto (tgt := 2221) hx hb dL_law_1487 (by decide) ?_
        exact W.widen (by omega) (by omega) (kk MR adR ctR H locs ls (lI_end hlC hu.2.2 hfl hlR2 (hok.2 _ _ _ hspR) (e0.trans h0.2.2.2.2.2.1) hou) hW hS (hL.le (by repeat (first | exact kle_nil | refine kle_same ?_ | refine kle_drop ?_))))
      · rw [cl_eq] at c1462
        
        refine lv_aload hx hb dL_law_1465 (hL.at 4 rfl) ?_
        refine lv_iconst (v := 0) hx hb dL_law_1467 (by decide) ?_
        refine k_dald hx hb hK hW ((hfl 91 (by omega)).2.trans hou.2) 0 (by omega) (by omega) rfl dL_law_1468 ?_
        rw [hk0 c1452, hu.2.1 c1452]
        refine lv_aload hx hb dL_law_1469 (hL.at 4 rfl) ?_
        refine lv_iconst (v := 0) hx hb dL_law_1471 (by decide) ?_
        refine k_dald hx hb hK hW ((hfl 91 (by omega)).2.trans hou.2) 0 (by omega) (by omega) rfl dL_law_1472 ?_
        rw [hk0 c1452, hu.2.1 c1452]
        refine lv_dcmp hx hb dL_law_1473 ?_
        refine lv_if_eq (tgt := 1485) hx hb dL_law_1474 (by decide) (fun c1474 => ?_) (fun c1474 => ?_)
        · rw [cl_eq] at c1474
          exact absurd c1474 c1462
        · rw [cl_eq] at c1474
          
          refine lv_dload hx hb dL_law_1477 (hL.at 7 rfl) ?_
          refine lv_dload hx hb dL_law_1479 (hL.at 7 rfl) ?_
          refine lv_dcmp hx hb dL_law_1481 ?_
          refine lv_if_ne (tgt := 1487) hx hb dL_law_1482 (by decide) (fun c1482 => ?_) (fun c1482 => ?_)
          · rw [cl_eq] at c1482
            
            refine lv_goto (tgt := 2221) hx hb dL_law_1487 (by decide) ?_
            exact W.widen (by omega) (by omega) (kk MR adR ctR H locs ls (lI_end hlC hu.2.2 hfl hlR2 (hok.2 _ _ _ hspR) (e0.trans h0.2.2.2.2.2.1) hou) hW hS (hL.le (by repeat (first | exact kle_nil | refine kle_same ?_ | refine kle_drop ?_))))
          · rw [cl_eq] at c1482
            exact absurd (by first | exact c1482 | exact Decidable.not_not.mp c1482) c1462
  · try dsimp only at c1445
    exact absurd hu.1.symm c1445

set_option maxHeartbeats 4000000 in
set_option maxRecDepth 100000 in
theorem L_ofOrder {l : Launch} {D : va_G} {cy : Nat → ClassId} {sad : Nat → Nat} {em : Nat} {s0 : State} {a0 : Array Value} (G : kG kSTR l D cy sad em s0 a0) {p : Program} {e : Env} {s : State} {m : MethodId} {args : Array Value} {below : List Frame} {meth : Method} {c : Code} {H : Heap} {locs : List Loc} {cells slots : Nat} {Q : State → Prop} {ls : Array Slot} {b L : Nat} {xs : Nat → Int32} {nb : Nat} {M : tM} {ad : Nat → Nat} {ct : Nat → Option va_E}
    (hx : p.tables.exec = Jvm.exec) (hb : c.code = cL_law) (hml : c.maxLocals = 10) (hown : s.vm.findClass "TailorBenchLaw" = some m.cls) (hts : ∀ w ∈ gT, w.before args s = true) (hq : ∀ w ∈ lw_tbl, kgood w = true → w.before args s = true) (hK : va_K D vwCl (ktys cy) s) (hI : kI s0 s) (hX : va_X b L xs s s.heap) (hbl : b < s.heap.size) (hbA : ¬ kA s0 b) (hnb : 7 * nb + 7 ≤ L) (hL3 : L ≤ 3584) (h0 : lI cy em nb M ad ct) (hW : kW D s0.heap.size ad ct H) (hS : va_S (kA s0) s.heap H locs) (hL : lvP ls 10 [some (.ref b), some (.ref (ad 1)), some (.ref (ad 100)), some (.ref (ad 90)), some (.ref (ad 91)), some (.int (nI (7 * nb))), none, none, none, none]) (hcl : cells + 900 ≤ 601024) (hsl : slots + 13100 ≤ 7293034)
    {sp : Int32 → Int32 → tM → Prop} (hok : spOk nb sp)
    (hC : KM l yL_ofOrder [.codeWith yL_ofOrder method_18_code 5 (some .int) [(0, 10, 13, 21), (0, 10, 17, 13)]] 8 143 2 12 [.ref (ad 1), .int (xs (7 * nb + 1)), .int (xs (7 * nb + 2)), .ref (ad 90)] D s0 ad ct (oCi cy ad M sp))
    (hR : ∀ (adC : Nat → Nat) (ctC : Nat → Option va_E), lR cy adC ctC M → adC 0 = em → KM l yX11_ofOrder [.code yX11_ofOrder prog_10_method_42_code 3 (some .int)] 5 160 2 12 [.ref (adC 100), .int (xs (7 * nb + 1)), .int (xs (7 * nb + 2))] D s0 adC ctC (oRi cy adC ctC sp))
    (kk : ∀ (M' : tM) (ad' : Nat → Nat) (ct' : Nat → Option va_E) (H' : Heap) (locs' : List Loc) (ls' : Array Slot), lI cy em (nb + 1) M' ad' ct' → kW D s0.heap.size ad' ct' H' → va_S (kA s0) s.heap H' locs' → lvP ls' 10 [some (.ref b), some (.ref (ad' 1)), some (.ref (ad' 100)), some (.ref (ad' 90)), some (.ref (ad' 91)), some (.int (nI (7 * nb))), none, none, none, none] → W p l e room_1 s m args below meth c H' locs' (cells + 900) (slots + 13100) Q (F0 m 2221 ls' [])) :
    W p l e room_1 s m args below meth c H locs cells slots Q (F0 m 1490 ls []) := by
  refine lv_aload_n hx hb dL_law_1490 rfl (hL.at 1 rfl) ?_
  refine lv_aload_n hx hb dL_law_1491 rfl (hL.at 0 rfl) ?_
  refine lv_iload hx hb dL_law_1492 (hL.at 5 rfl) ?_
  refine lv_iconst (v := 1) hx hb dL_law_1494 (by decide) ?_
  refine lv_iadd hx hb dL_law_1495 ?_
  refine k_sld hx hb hX hbl hbA hS (k := 1) rfl (by omega) hL3 dL_law_1496 ?_
  refine lv_aload_n hx hb dL_law_1497 rfl (hL.at 0 rfl) ?_
  refine lv_iload hx hb dL_law_1498 (hL.at 5 rfl) ?_
  refine lv_iconst (v := 2) hx hb dL_law_1500 (by decide) ?_
  refine lv_iadd hx hb dL_law_1501 ?_
  refine k_sld hx hb hX hbl hbA hS (k := 2) rfl (by omega) hL3 dL_law_1502 ?_
  refine lv_aload_n hx hb dL_law_1503 rfl (hL.at 3 rfl) ?_
  refine k_callSH hx hb hml hown hts hI hS hW hL.1 hC (m4 (gT_in q793 rfl) (gT_in q794 rfl) (gT_in q54 rfl) (gT_in q795 rfl)) (show kpar yL_ofOrder 4 from ⟨by decide, by decide, by decide +kernel⟩) (by first | exact ⟨by decide, by decide⟩ | exact ⟨Nat.le_of_ble_eq_true rfl, Nat.le_of_ble_eq_true rfl⟩) (by show _ ≤ 601024; omega) (by show _ ≤ 7293034; omega) rfl (by decide) dL_law_1504 (fun v adC ctC H locs hp hW hS => ?_)
  obtain ⟨kc, a, MC, fo, fd, rfl, hlC, hlR, ⟨e0, e1, e100, e90, e91⟩, hou, hk0, hsp⟩ := hp
  rw [← e1, ← e100, ← e90, ← e91] at hL
  obtain ⟨⟨th0, sm0, hm100⟩, -⟩ := id hlR
  refine k_ist hx hb hL (i := 6) (by decide) dL_law_1507 (fun ls hL => ?_)
  replace hL := hL.nrm (l' := [some _, some _, some _, some _, some _, some _, some _, none, none, none]) rfl
  refine lv_aload_n hx hb dL_law_1509 rfl (hL.at 2 rfl) ?_
  refine lv_aload_n hx hb dL_law_1510 rfl (hL.at 0 rfl) ?_
  refine lv_iload hx hb dL_law_1511 (hL.at 5 rfl) ?_
  refine lv_iconst (v := 1) hx hb dL_law_1513 (by decide) ?_
  refine lv_iadd hx hb dL_law_1514 ?_
  refine k_sld hx hb hX hbl hbA hS (k := 1) rfl (by omega) hL3 dL_law_1515 ?_
  refine lv_aload_n hx hb dL_law_1516 rfl (hL.at 0 rfl) ?_
  refine lv_iload hx hb dL_law_1517 (hL.at 5 rfl) ?_
  refine lv_iconst (v := 2) hx hb dL_law_1519 (by decide) ?_
  refine lv_iadd hx hb dL_law_1520 ?_
  refine k_sld hx hb hX hbl hbA hS (k := 2) rfl (by omega) hL3 dL_law_1521 ?_
  refine k_callV (q := (RX11, TX11, 13)) hx hb hml hown hts hK hI hS hW hL.1 (hm100) rfl (hR adC ctC hlR (e0.trans h0.2.2.2.2.2.1)) (m5 (gT_in q1336 rfl) (gT_in q1337 rfl) (gT_in q1338 rfl) (gT_in q57 rfl) (gT_in q1339 rfl)) rfl (show kpar yX11_ofOrder 2 from ⟨by decide, by decide, by decide +kernel⟩) (by first | exact ⟨by decide, by decide⟩ | exact ⟨Nat.le_of_ble_eq_true rfl, Nat.le_of_ble_eq_true rfl⟩) (by show _ ≤ 601024; omega) (by show _ ≤ 7293034; omega) rfl (by decide) dL_law_1522 (fun v adR ctR H locs hp hW hS => ?_)
  obtain ⟨bb, th, sm, MR, rfl, hmR, hlR2, hfl, f100, hspR⟩ := hp
  rw [← f100, ← (hfl 1 (by omega)).1, ← (hfl 90 (by omega)).1, ← (hfl 91 (by omega)).1] at hL
  refine k_ist hx hb hL (i := 7) (by decide) dL_law_1525 (fun ls hL => ?_)
  replace hL := hL.nrm (l' := [some _, some _, some _, some _, some _, some _, some _, some _, none, none]) rfl
  refine lv_aload_n hx hb dL_law_1527 rfl (hL.at 2 rfl) ?_
  refine k_callV (q := (RX11, TX11, 13)) hx hb hml hown hts hK hI hS hW hL.1 (hmR) rfl (r_thrown G hmR) (m5 (gT_in q912 rfl) (gT_in q913 rfl) (gT_in q914 rfl) (gT_in q57 rfl) (gT_in q915 rfl)) rfl (show kpar yX11_thrown 0 from ⟨by decide, by decide, by decide +kernel⟩) (by first | exact ⟨by decide, by decide⟩ | exact ⟨Nat.le_of_ble_eq_true rfl, Nat.le_of_ble_eq_true rfl⟩) (by show _ ≤ 601024; omega) (by show _ ≤ 7293034; omega) rfl (by decide) dL_law_1528 (fun v adT ctT H locs hp hW hS => ?_)
  obtain ⟨rfl, h1, h2⟩ := hp
  rw [h1, h2] at hW
  have hu := hok.1 _ _ _ _ _ _ hsp hspR
  refine lv_iload hx hb dL_law_1531 (hL.at 6 rfl) ?_
  refine lv_icmp_eq (tgt := 1538) hx hb dL_law_1533 (by decide) (fun c1533 => ?_) (fun c1533 => ?_)
  · try dsimp only at c1533
    
    refine lv_iload hx hb dL_law_1538 (hL.at 6 rfl) ?_
    refine lv_if_ne (tgt := 1555) hx hb dL_law_1540 (by decide) (fun c1540 => ?_) (fun c1540 => ?_)
    · try dsimp only at c1540
      refine lv_goto (tgt := 2221) hx hb dL_law_1555 (by decide) ?_
      exact W.widen (by omega) (by omega) (kk MR adR ctR H locs ls (lI_end hlC hu.2.2 hfl hlR2 (hok.2 _ _ _ hspR) (e0.trans h0.2.2.2.2.2.1) hou) hW hS (hL.le (by repeat (first | exact kle_nil | refine kle_same ?_ | refine kle_drop ?_))))
    · try dsimp only at c1540
      refine lv_aload_n hx hb dL_law_1543 rfl (hL.at 3 rfl) ?_
      refine lv_iconst (v := 0) hx hb dL_law_1544 (by decide) ?_
      refine k_lald hx hb hK hW ((hfl 90 (by omega)).2.trans hou.1) 0 (by omega) (by omega) rfl dL_law_1545 ?_
      rw [hk0 c1540, hu.2.1 c1540]
      refine lv_iload hx hb dL_law_1546 (hL.at 7 rfl) ?_
      refine lv_i2l hx hb dL_law_1548 rfl ?_
      refine W.lcmp hx hb dL_law_1549 ?_
      refine lv_if_eq (tgt := 1555) hx hb dL_law_1550 (by decide) (fun c1550 => ?_) (fun c1550 => ?_)
      · try dsimp only at c1550
        
        refine lv_goto (tgt := 2221) hx hb dL_law_1555 (by decide) ?_
        exact W.widen (by omega) (by omega) (kk MR adR ctR H locs ls (lI_end hlC hu.2.2 hfl hlR2 (hok.2 _ _ _ hspR) (e0.trans h0.2.2.2.2.2.1) hou) hW hS (hL.le (by repeat (first | exact kle_nil | refine kle_same ?_ | refine kle_drop ?_))))
      · try dsimp only at c1550
        exact absurd (lg_self _) c1550
  · try dsimp only at c1533
    exact absurd hu.1.symm c1533

set_option maxHeartbeats 4000000 in
set_option maxRecDepth 100000 in
theorem L_tight {l : Launch} {D : va_G} {cy : Nat → ClassId} {sad : Nat → Nat} {em : Nat} {s0 : State} {a0 : Array Value} (G : kG kSTR l D cy sad em s0 a0) {p : Program} {e : Env} {s : State} {m : MethodId} {args : Array Value} {below : List Frame} {meth : Method} {c : Code} {H : Heap} {locs : List Loc} {cells slots : Nat} {Q : State → Prop} {ls : Array Slot} {b L : Nat} {xs : Nat → Int32} {nb : Nat} {M : tM} {ad : Nat → Nat} {ct : Nat → Option va_E}
    (hx : p.tables.exec = Jvm.exec) (hb : c.code = cL_law) (hml : c.maxLocals = 10) (hown : s.vm.findClass "TailorBenchLaw" = some m.cls) (hts : ∀ w ∈ gT, w.before args s = true) (hq : ∀ w ∈ lw_tbl, kgood w = true → w.before args s = true) (hK : va_K D vwCl (ktys cy) s) (hI : kI s0 s) (hX : va_X b L xs s s.heap) (hbl : b < s.heap.size) (hbA : ¬ kA s0 b) (hnb : 7 * nb + 7 ≤ L) (hL3 : L ≤ 3584) (h0 : lI cy em nb M ad ct) (hW : kW D s0.heap.size ad ct H) (hS : va_S (kA s0) s.heap H locs) (hL : lvP ls 10 [some (.ref b), some (.ref (ad 1)), some (.ref (ad 100)), some (.ref (ad 90)), some (.ref (ad 91)), some (.int (nI (7 * nb))), none, none, none, none]) (hcl : cells + 900 ≤ 601024) (hsl : slots + 13100 ≤ 7293034)
    {sp : Int32 → UInt64 → tM → Prop} (hok : spOk nb sp)
    (hC : KM l yL_tight [.codeWith yL_tight method_19_code 5 (some .int) [(0, 9, 12, 21)]] 8 142 2 12 [.ref (ad 1), .int (xs (7 * nb + 1)), .int (fBo (xs (7 * nb + 2))), .ref (ad 91)] D s0 ad ct (oCd cy ad M sp))
    (hR : ∀ (adC : Nat → Nat) (ctC : Nat → Option va_E), lR cy adC ctC M → adC 0 = em → KM l yX11_tight [.code yX11_tight prog_10_method_43_code 3 (some .double)] 7 240 0 0 [.ref (adC 100), .int (xs (7 * nb + 1)), .int (fBo (xs (7 * nb + 2)))] D s0 adC ctC (oRd cy adC ctC sp))
    (kk : ∀ (M' : tM) (ad' : Nat → Nat) (ct' : Nat → Option va_E) (H' : Heap) (locs' : List Loc) (ls' : Array Slot), lI cy em (nb + 1) M' ad' ct' → kW D s0.heap.size ad' ct' H' → va_S (kA s0) s.heap H' locs' → lvP ls' 10 [some (.ref b), some (.ref (ad' 1)), some (.ref (ad' 100)), some (.ref (ad' 90)), some (.ref (ad' 91)), some (.int (nI (7 * nb))), none, none, none, none] → W p l e room_1 s m args below meth c H' locs' (cells + 900) (slots + 13100) Q (F0 m 2221 ls' [])) :
    W p l e room_1 s m args below meth c H locs cells slots Q (F0 m 1558 ls []) := by
  refine lv_aload_n hx hb dL_law_1558 rfl (hL.at 1 rfl) ?_
  refine lv_aload_n hx hb dL_law_1559 rfl (hL.at 0 rfl) ?_
  refine lv_iload hx hb dL_law_1560 (hL.at 5 rfl) ?_
  refine lv_iconst (v := 1) hx hb dL_law_1562 (by decide) ?_
  refine lv_iadd hx hb dL_law_1563 ?_
  refine k_sld hx hb hX hbl hbA hS (k := 1) rfl (by omega) hL3 dL_law_1564 ?_
  refine lv_aload_n hx hb dL_law_1565 rfl (hL.at 0 rfl) ?_
  refine lv_iload hx hb dL_law_1566 (hL.at 5 rfl) ?_
  refine lv_iconst (v := 2) hx hb dL_law_1568 (by decide) ?_
  refine lv_iadd hx hb dL_law_1569 ?_
  refine k_sld hx hb hX hbl hbA hS (k := 2) rfl (by omega) hL3 dL_law_1570 ?_
  refine k_bool hx hb dL_law_1571 dL_law_1574 dL_law_1575 dL_law_1578 ?_
  refine lv_aload hx hb dL_law_1579 (hL.at 4 rfl) ?_
  refine k_callSH hx hb hml hown hts hI hS hW hL.1 hC (m4 (gT_in q797 rfl) (gT_in q798 rfl) (gT_in q54 rfl) (gT_in q799 rfl)) (show kpar yL_tight 4 from ⟨by decide, by decide, by decide +kernel⟩) (by first | exact ⟨by decide, by decide⟩ | exact ⟨Nat.le_of_ble_eq_true rfl, Nat.le_of_ble_eq_true rfl⟩) (by show _ ≤ 601024; omega) (by show _ ≤ 7293034; omega) rfl (by decide) dL_law_1581 (fun v adC ctC H locs hp hW hS => ?_)
  obtain ⟨kc, a, MC, fo, fd, rfl, hlC, hlR, ⟨e0, e1, e100, e90, e91⟩, hou, hk0, hsp⟩ := hp
  rw [← e1, ← e100, ← e90, ← e91] at hL
  obtain ⟨⟨th0, sm0, hm100⟩, -⟩ := id hlR
  refine k_ist hx hb hL (i := 6) (by decide) dL_law_1584 (fun ls hL => ?_)
  replace hL := hL.nrm (l' := [some _, some _, some _, some _, some _, some _, some _, none, none, none]) rfl
  refine lv_aload_n hx hb dL_law_1586 rfl (hL.at 2 rfl) ?_
  refine lv_aload_n hx hb dL_law_1587 rfl (hL.at 0 rfl) ?_
  refine lv_iload hx hb dL_law_1588 (hL.at 5 rfl) ?_
  refine lv_iconst (v := 1) hx hb dL_law_1590 (by decide) ?_
  refine lv_iadd hx hb dL_law_1591 ?_
  refine k_sld hx hb hX hbl hbA hS (k := 1) rfl (by omega) hL3 dL_law_1592 ?_
  refine lv_aload_n hx hb dL_law_1593 rfl (hL.at 0 rfl) ?_
  refine lv_iload hx hb dL_law_1594 (hL.at 5 rfl) ?_
  refine lv_iconst (v := 2) hx hb dL_law_1596 (by decide) ?_
  refine lv_iadd hx hb dL_law_1597 ?_
  refine k_sld hx hb hX hbl hbA hS (k := 2) rfl (by omega) hL3 dL_law_1598 ?_
  refine k_bool hx hb dL_law_1599 dL_law_1602 dL_law_1603 dL_law_1606 ?_
  refine k_callV (q := (RX11, TX11, 13)) hx hb hml hown hts hK hI hS hW hL.1 (hm100) rfl (hR adC ctC hlR (e0.trans h0.2.2.2.2.2.1)) (m5 (gT_in q1344 rfl) (gT_in q1345 rfl) (gT_in q1346 rfl) (gT_in q57 rfl) (gT_in q1347 rfl)) rfl (show kpar yX11_tight 2 from ⟨by decide, by decide, by decide +kernel⟩) (by first | exact ⟨by decide, by decide⟩ | exact ⟨Nat.le_of_ble_eq_true rfl, Nat.le_of_ble_eq_true rfl⟩) (by show _ ≤ 601024; omega) (by show _ ≤ 7293034; omega) rfl (by decide) dL_law_1607 (fun v adR ctR H locs hp hW hS => ?_)
  obtain ⟨bb, th, sm, MR, rfl, hmR, hlR2, hfl, f100, hspR⟩ := hp
  rw [← f100, ← (hfl 1 (by omega)).1, ← (hfl 90 (by omega)).1, ← (hfl 91 (by omega)).1] at hL
  refine k_dst hx hb hL (i := 7) (by decide) dL_law_1610 (fun ls hL => ?_)
  replace hL := hL.nrm (l' := [some _, some _, some _, some _, some _, some _, some _, some _, none, none]) rfl
  refine lv_aload_n hx hb dL_law_1612 rfl (hL.at 2 rfl) ?_
  refine k_callV (q := (RX11, TX11, 13)) hx hb hml hown hts hK hI hS hW hL.1 (hmR) rfl (r_thrown G hmR) (m5 (gT_in q912 rfl) (gT_in q913 rfl) (gT_in q914 rfl) (gT_in q57 rfl) (gT_in q915 rfl)) rfl (show kpar yX11_thrown 0 from ⟨by decide, by decide, by decide +kernel⟩) (by first | exact ⟨by decide, by decide⟩ | exact ⟨Nat.le_of_ble_eq_true rfl, Nat.le_of_ble_eq_true rfl⟩) (by show _ ≤ 601024; omega) (by show _ ≤ 7293034; omega) rfl (by decide) dL_law_1613 (fun v adT ctT H locs hp hW hS => ?_)
  obtain ⟨rfl, h1, h2⟩ := hp
  rw [h1, h2] at hW
  have hu := hok.1 _ _ _ _ _ _ hsp hspR
  refine lv_iload hx hb dL_law_1616 (hL.at 6 rfl) ?_
  refine lv_icmp_eq (tgt := 1623) hx hb dL_law_1618 (by decide) (fun c1618 => ?_) (fun c1618 => ?_)
  · try dsimp only at c1618
    
    refine lv_iload hx hb dL_law_1623 (hL.at 6 rfl) ?_
    refine lv_if_ne (tgt := 1660) hx hb dL_law_1625 (by decide) (fun c1625 => ?_) (fun c1625 => ?_)
    · try dsimp only at c1625
      refine lv_goto (tgt := 2221) hx hb dL_law_1660 (by decide) ?_
      exact W.widen (by omega) (by omega) (kk MR adR ctR H locs ls (lI_end hlC hu.2.2 hfl hlR2 (hok.2 _ _ _ hspR) (e0.trans h0.2.2.2.2.2.1) hou) hW hS (hL.le (by repeat (first | exact kle_nil | refine kle_same ?_ | refine kle_drop ?_))))
    · try dsimp only at c1625
      refine lv_aload hx hb dL_law_1628 (hL.at 4 rfl) ?_
      refine lv_iconst (v := 0) hx hb dL_law_1630 (by decide) ?_
      refine k_dald hx hb hK hW ((hfl 91 (by omega)).2.trans hou.2) 0 (by omega) (by omega) rfl dL_law_1631 ?_
      rw [hk0 c1625, hu.2.1 c1625]
      refine lv_dload hx hb dL_law_1632 (hL.at 7 rfl) ?_
      refine lv_dcmp hx hb dL_law_1634 ?_
      refine lv_if_eq (tgt := 1660) hx hb dL_law_1635 (by decide) (fun c1635 => ?_) (fun c1635 => ?_)
      · rw [cl_eq] at c1635
        
        refine lv_goto (tgt := 2221) hx hb dL_law_1660 (by decide) ?_
        exact W.widen (by omega) (by omega) (kk MR adR ctR H locs ls (lI_end hlC hu.2.2 hfl hlR2 (hok.2 _ _ _ hspR) (e0.trans h0.2.2.2.2.2.1) hou) hW hS (hL.le (by repeat (first | exact kle_nil | refine kle_same ?_ | refine kle_drop ?_))))
      · rw [cl_eq] at c1635
        
        refine lv_aload hx hb dL_law_1638 (hL.at 4 rfl) ?_
        refine lv_iconst (v := 0) hx hb dL_law_1640 (by decide) ?_
        refine k_dald hx hb hK hW ((hfl 91 (by omega)).2.trans hou.2) 0 (by omega) (by omega) rfl dL_law_1641 ?_
        rw [hk0 c1625, hu.2.1 c1625]
        refine lv_aload hx hb dL_law_1642 (hL.at 4 rfl) ?_
        refine lv_iconst (v := 0) hx hb dL_law_1644 (by decide) ?_
        refine k_dald hx hb hK hW ((hfl 91 (by omega)).2.trans hou.2) 0 (by omega) (by omega) rfl dL_law_1645 ?_
        rw [hk0 c1625, hu.2.1 c1625]
        refine lv_dcmp hx hb dL_law_1646 ?_
        refine lv_if_eq (tgt := 1658) hx hb dL_law_1647 (by decide) (fun c1647 => ?_) (fun c1647 => ?_)
        · rw [cl_eq] at c1647
          exact absurd c1647 c1635
        · rw [cl_eq] at c1647
          
          refine lv_dload hx hb dL_law_1650 (hL.at 7 rfl) ?_
          refine lv_dload hx hb dL_law_1652 (hL.at 7 rfl) ?_
          refine lv_dcmp hx hb dL_law_1654 ?_
          refine lv_if_ne (tgt := 1660) hx hb dL_law_1655 (by decide) (fun c1655 => ?_) (fun c1655 => ?_)
          · rw [cl_eq] at c1655
            
            refine lv_goto (tgt := 2221) hx hb dL_law_1660 (by decide) ?_
            exact W.widen (by omega) (by omega) (kk MR adR ctR H locs ls (lI_end hlC hu.2.2 hfl hlR2 (hok.2 _ _ _ hspR) (e0.trans h0.2.2.2.2.2.1) hou) hW hS (hL.le (by repeat (first | exact kle_nil | refine kle_same ?_ | refine kle_drop ?_))))
          · rw [cl_eq] at c1655
            exact absurd (by first | exact c1655 | exact Decidable.not_not.mp c1655) c1635
  · try dsimp only at c1618
    exact absurd hu.1.symm c1618

set_option maxHeartbeats 4000000 in
set_option maxRecDepth 100000 in
theorem L_ready {l : Launch} {D : va_G} {cy : Nat → ClassId} {sad : Nat → Nat} {em : Nat} {s0 : State} {a0 : Array Value} (G : kG kSTR l D cy sad em s0 a0) {p : Program} {e : Env} {s : State} {m : MethodId} {args : Array Value} {below : List Frame} {meth : Method} {c : Code} {H : Heap} {locs : List Loc} {cells slots : Nat} {Q : State → Prop} {ls : Array Slot} {b L : Nat} {xs : Nat → Int32} {nb : Nat} {M : tM} {ad : Nat → Nat} {ct : Nat → Option va_E}
    (hx : p.tables.exec = Jvm.exec) (hb : c.code = cL_law) (hml : c.maxLocals = 10) (hown : s.vm.findClass "TailorBenchLaw" = some m.cls) (hts : ∀ w ∈ gT, w.before args s = true) (hq : ∀ w ∈ lw_tbl, kgood w = true → w.before args s = true) (hK : va_K D vwCl (ktys cy) s) (hI : kI s0 s) (hX : va_X b L xs s s.heap) (hbl : b < s.heap.size) (hbA : ¬ kA s0 b) (hnb : 7 * nb + 7 ≤ L) (hL3 : L ≤ 3584) (h0 : lI cy em nb M ad ct) (hW : kW D s0.heap.size ad ct H) (hS : va_S (kA s0) s.heap H locs) (hL : lvP ls 10 [some (.ref b), some (.ref (ad 1)), some (.ref (ad 100)), some (.ref (ad 90)), some (.ref (ad 91)), some (.int (nI (7 * nb))), none, none, none, none]) (hcl : cells + 900 ≤ 601024) (hsl : slots + 13100 ≤ 7293034)
    {sp : Int32 → UInt64 → tM → Prop} (hok : spOk nb sp)
    (hC : KM l yL_ready [.codeWith yL_ready method_20_code 4 (some .int) [(0, 8, 11, 21)]] 8 141 2 12 [.ref (ad 1), .int (xs (7 * nb + 1)), .ref (ad 91)] D s0 ad ct (oCd cy ad M sp))
    (hR : ∀ (adC : Nat → Nat) (ctC : Nat → Option va_E), lR cy adC ctC M → adC 0 = em → KM l yX11_ready [.code yX11_ready prog_10_method_44_code 2 (some .double)] 4 120 0 0 [.ref (adC 100), .int (xs (7 * nb + 1))] D s0 adC ctC (oRd cy adC ctC sp))
    (kk : ∀ (M' : tM) (ad' : Nat → Nat) (ct' : Nat → Option va_E) (H' : Heap) (locs' : List Loc) (ls' : Array Slot), lI cy em (nb + 1) M' ad' ct' → kW D s0.heap.size ad' ct' H' → va_S (kA s0) s.heap H' locs' → lvP ls' 10 [some (.ref b), some (.ref (ad' 1)), some (.ref (ad' 100)), some (.ref (ad' 90)), some (.ref (ad' 91)), some (.int (nI (7 * nb))), none, none, none, none] → W p l e room_1 s m args below meth c H' locs' (cells + 900) (slots + 13100) Q (F0 m 2221 ls' [])) :
    W p l e room_1 s m args below meth c H locs cells slots Q (F0 m 1663 ls []) := by
  refine lv_aload_n hx hb dL_law_1663 rfl (hL.at 1 rfl) ?_
  refine lv_aload_n hx hb dL_law_1664 rfl (hL.at 0 rfl) ?_
  refine lv_iload hx hb dL_law_1665 (hL.at 5 rfl) ?_
  refine lv_iconst (v := 1) hx hb dL_law_1667 (by decide) ?_
  refine lv_iadd hx hb dL_law_1668 ?_
  refine k_sld hx hb hX hbl hbA hS (k := 1) rfl (by omega) hL3 dL_law_1669 ?_
  refine lv_aload hx hb dL_law_1670 (hL.at 4 rfl) ?_
  refine k_callSH hx hb hml hown hts hI hS hW hL.1 hC (m4 (gT_in q801 rfl) (gT_in q802 rfl) (gT_in q54 rfl) (gT_in q803 rfl)) (show kpar yL_ready 3 from ⟨by decide, by decide, by decide +kernel⟩) (by first | exact ⟨by decide, by decide⟩ | exact ⟨Nat.le_of_ble_eq_true rfl, Nat.le_of_ble_eq_true rfl⟩) (by show _ ≤ 601024; omega) (by show _ ≤ 7293034; omega) rfl (by decide) dL_law_1672 (fun v adC ctC H locs hp hW hS => ?_)
  obtain ⟨kc, a, MC, fo, fd, rfl, hlC, hlR, ⟨e0, e1, e100, e90, e91⟩, hou, hk0, hsp⟩ := hp
  rw [← e1, ← e100, ← e90, ← e91] at hL
  obtain ⟨⟨th0, sm0, hm100⟩, -⟩ := id hlR
  refine k_ist hx hb hL (i := 6) (by decide) dL_law_1675 (fun ls hL => ?_)
  replace hL := hL.nrm (l' := [some _, some _, some _, some _, some _, some _, some _, none, none, none]) rfl
  refine lv_aload_n hx hb dL_law_1677 rfl (hL.at 2 rfl) ?_
  refine lv_aload_n hx hb dL_law_1678 rfl (hL.at 0 rfl) ?_
  refine lv_iload hx hb dL_law_1679 (hL.at 5 rfl) ?_
  refine lv_iconst (v := 1) hx hb dL_law_1681 (by decide) ?_
  refine lv_iadd hx hb dL_law_1682 ?_
  refine k_sld hx hb hX hbl hbA hS (k := 1) rfl (by omega) hL3 dL_law_1683 ?_
  refine k_callV (q := (RX11, TX11, 13)) hx hb hml hown hts hK hI hS hW hL.1 (hm100) rfl (hR adC ctC hlR (e0.trans h0.2.2.2.2.2.1)) (m5 (gT_in q1348 rfl) (gT_in q1349 rfl) (gT_in q1350 rfl) (gT_in q57 rfl) (gT_in q1351 rfl)) rfl (show kpar yX11_ready 1 from ⟨by decide, by decide, by decide +kernel⟩) (by first | exact ⟨by decide, by decide⟩ | exact ⟨Nat.le_of_ble_eq_true rfl, Nat.le_of_ble_eq_true rfl⟩) (by show _ ≤ 601024; omega) (by show _ ≤ 7293034; omega) rfl (by decide) dL_law_1684 (fun v adR ctR H locs hp hW hS => ?_)
  obtain ⟨bb, th, sm, MR, rfl, hmR, hlR2, hfl, f100, hspR⟩ := hp
  rw [← f100, ← (hfl 1 (by omega)).1, ← (hfl 90 (by omega)).1, ← (hfl 91 (by omega)).1] at hL
  refine k_dst hx hb hL (i := 7) (by decide) dL_law_1687 (fun ls hL => ?_)
  replace hL := hL.nrm (l' := [some _, some _, some _, some _, some _, some _, some _, some _, none, none]) rfl
  refine lv_aload_n hx hb dL_law_1689 rfl (hL.at 2 rfl) ?_
  refine k_callV (q := (RX11, TX11, 13)) hx hb hml hown hts hK hI hS hW hL.1 (hmR) rfl (r_thrown G hmR) (m5 (gT_in q912 rfl) (gT_in q913 rfl) (gT_in q914 rfl) (gT_in q57 rfl) (gT_in q915 rfl)) rfl (show kpar yX11_thrown 0 from ⟨by decide, by decide, by decide +kernel⟩) (by first | exact ⟨by decide, by decide⟩ | exact ⟨Nat.le_of_ble_eq_true rfl, Nat.le_of_ble_eq_true rfl⟩) (by show _ ≤ 601024; omega) (by show _ ≤ 7293034; omega) rfl (by decide) dL_law_1690 (fun v adT ctT H locs hp hW hS => ?_)
  obtain ⟨rfl, h1, h2⟩ := hp
  rw [h1, h2] at hW
  have hu := hok.1 _ _ _ _ _ _ hsp hspR
  refine lv_iload hx hb dL_law_1693 (hL.at 6 rfl) ?_
  refine lv_icmp_eq (tgt := 1700) hx hb dL_law_1695 (by decide) (fun c1695 => ?_) (fun c1695 => ?_)
  · try dsimp only at c1695
    
    refine lv_iload hx hb dL_law_1700 (hL.at 6 rfl) ?_
    refine lv_if_ne (tgt := 1737) hx hb dL_law_1702 (by decide) (fun c1702 => ?_) (fun c1702 => ?_)
    · try dsimp only at c1702
      refine lv_goto (tgt := 2221) hx hb dL_law_1737 (by decide) ?_
      exact W.widen (by omega) (by omega) (kk MR adR ctR H locs ls (lI_end hlC hu.2.2 hfl hlR2 (hok.2 _ _ _ hspR) (e0.trans h0.2.2.2.2.2.1) hou) hW hS (hL.le (by repeat (first | exact kle_nil | refine kle_same ?_ | refine kle_drop ?_))))
    · try dsimp only at c1702
      refine lv_aload hx hb dL_law_1705 (hL.at 4 rfl) ?_
      refine lv_iconst (v := 0) hx hb dL_law_1707 (by decide) ?_
      refine k_dald hx hb hK hW ((hfl 91 (by omega)).2.trans hou.2) 0 (by omega) (by omega) rfl dL_law_1708 ?_
      rw [hk0 c1702, hu.2.1 c1702]
      refine lv_dload hx hb dL_law_1709 (hL.at 7 rfl) ?_
      refine lv_dcmp hx hb dL_law_1711 ?_
      refine lv_if_eq (tgt := 1737) hx hb dL_law_1712 (by decide) (fun c1712 => ?_) (fun c1712 => ?_)
      · rw [cl_eq] at c1712
        
        refine lv_goto (tgt := 2221) hx hb dL_law_1737 (by decide) ?_
        exact W.widen (by omega) (by omega) (kk MR adR ctR H locs ls (lI_end hlC hu.2.2 hfl hlR2 (hok.2 _ _ _ hspR) (e0.trans h0.2.2.2.2.2.1) hou) hW hS (hL.le (by repeat (first | exact kle_nil | refine kle_same ?_ | refine kle_drop ?_))))
      · rw [cl_eq] at c1712
        
        refine lv_aload hx hb dL_law_1715 (hL.at 4 rfl) ?_
        refine lv_iconst (v := 0) hx hb dL_law_1717 (by decide) ?_
        refine k_dald hx hb hK hW ((hfl 91 (by omega)).2.trans hou.2) 0 (by omega) (by omega) rfl dL_law_1718 ?_
        rw [hk0 c1702, hu.2.1 c1702]
        refine lv_aload hx hb dL_law_1719 (hL.at 4 rfl) ?_
        refine lv_iconst (v := 0) hx hb dL_law_1721 (by decide) ?_
        refine k_dald hx hb hK hW ((hfl 91 (by omega)).2.trans hou.2) 0 (by omega) (by omega) rfl dL_law_1722 ?_
        rw [hk0 c1702, hu.2.1 c1702]
        refine lv_dcmp hx hb dL_law_1723 ?_
        refine lv_if_eq (tgt := 1735) hx hb dL_law_1724 (by decide) (fun c1724 => ?_) (fun c1724 => ?_)
        · rw [cl_eq] at c1724
          exact absurd c1724 c1712
        · rw [cl_eq] at c1724
          
          refine lv_dload hx hb dL_law_1727 (hL.at 7 rfl) ?_
          refine lv_dload hx hb dL_law_1729 (hL.at 7 rfl) ?_
          refine lv_dcmp hx hb dL_law_1731 ?_
          refine lv_if_ne (tgt := 1737) hx hb dL_law_1732 (by decide) (fun c1732 => ?_) (fun c1732 => ?_)
          · rw [cl_eq] at c1732
            
            refine lv_goto (tgt := 2221) hx hb dL_law_1737 (by decide) ?_
            exact W.widen (by omega) (by omega) (kk MR adR ctR H locs ls (lI_end hlC hu.2.2 hfl hlR2 (hok.2 _ _ _ hspR) (e0.trans h0.2.2.2.2.2.1) hou) hW hS (hL.le (by repeat (first | exact kle_nil | refine kle_same ?_ | refine kle_drop ?_))))
          · rw [cl_eq] at c1732
            exact absurd (by first | exact c1732 | exact Decidable.not_not.mp c1732) c1712
  · try dsimp only at c1695
    exact absurd hu.1.symm c1695

set_option maxHeartbeats 4000000 in
set_option maxRecDepth 100000 in
theorem L_free {l : Launch} {D : va_G} {cy : Nat → ClassId} {sad : Nat → Nat} {em : Nat} {s0 : State} {a0 : Array Value} (G : kG kSTR l D cy sad em s0 a0) {p : Program} {e : Env} {s : State} {m : MethodId} {args : Array Value} {below : List Frame} {meth : Method} {c : Code} {H : Heap} {locs : List Loc} {cells slots : Nat} {Q : State → Prop} {ls : Array Slot} {b L : Nat} {xs : Nat → Int32} {nb : Nat} {M : tM} {ad : Nat → Nat} {ct : Nat → Option va_E}
    (hx : p.tables.exec = Jvm.exec) (hb : c.code = cL_law) (hml : c.maxLocals = 10) (hown : s.vm.findClass "TailorBenchLaw" = some m.cls) (hts : ∀ w ∈ gT, w.before args s = true) (hq : ∀ w ∈ lw_tbl, kgood w = true → w.before args s = true) (hK : va_K D vwCl (ktys cy) s) (hI : kI s0 s) (hX : va_X b L xs s s.heap) (hbl : b < s.heap.size) (hbA : ¬ kA s0 b) (hnb : 7 * nb + 7 ≤ L) (hL3 : L ≤ 3584) (h0 : lI cy em nb M ad ct) (hW : kW D s0.heap.size ad ct H) (hS : va_S (kA s0) s.heap H locs) (hL : lvP ls 10 [some (.ref b), some (.ref (ad 1)), some (.ref (ad 100)), some (.ref (ad 90)), some (.ref (ad 91)), some (.int (nI (7 * nb))), none, none, none, none]) (hcl : cells + 900 ≤ 601024) (hsl : slots + 13100 ≤ 7293034)
    {sp : Int32 → UInt64 → tM → Prop} (hok : spOk nb sp)
    (hC : KM l yL_free [.codeWith yL_free method_21_code 4 (some .int) [(0, 8, 11, 21)]] 8 141 2 12 [.ref (ad 1), .int (xs (7 * nb + 1)), .ref (ad 91)] D s0 ad ct (oCd cy ad M sp))
    (hR : ∀ (adC : Nat → Nat) (ctC : Nat → Option va_E), lR cy adC ctC M → adC 0 = em → KM l yX11_free [.code yX11_free prog_10_method_45_code 2 (some .double)] 4 120 0 0 [.ref (adC 100), .int (xs (7 * nb + 1))] D s0 adC ctC (oRd cy adC ctC sp))
    (kk : ∀ (M' : tM) (ad' : Nat → Nat) (ct' : Nat → Option va_E) (H' : Heap) (locs' : List Loc) (ls' : Array Slot), lI cy em (nb + 1) M' ad' ct' → kW D s0.heap.size ad' ct' H' → va_S (kA s0) s.heap H' locs' → lvP ls' 10 [some (.ref b), some (.ref (ad' 1)), some (.ref (ad' 100)), some (.ref (ad' 90)), some (.ref (ad' 91)), some (.int (nI (7 * nb))), none, none, none, none] → W p l e room_1 s m args below meth c H' locs' (cells + 900) (slots + 13100) Q (F0 m 2221 ls' [])) :
    W p l e room_1 s m args below meth c H locs cells slots Q (F0 m 1740 ls []) := by
  refine lv_aload_n hx hb dL_law_1740 rfl (hL.at 1 rfl) ?_
  refine lv_aload_n hx hb dL_law_1741 rfl (hL.at 0 rfl) ?_
  refine lv_iload hx hb dL_law_1742 (hL.at 5 rfl) ?_
  refine lv_iconst (v := 1) hx hb dL_law_1744 (by decide) ?_
  refine lv_iadd hx hb dL_law_1745 ?_
  refine k_sld hx hb hX hbl hbA hS (k := 1) rfl (by omega) hL3 dL_law_1746 ?_
  refine lv_aload hx hb dL_law_1747 (hL.at 4 rfl) ?_
  refine k_callSH hx hb hml hown hts hI hS hW hL.1 hC (m4 (gT_in q805 rfl) (gT_in q806 rfl) (gT_in q54 rfl) (gT_in q807 rfl)) (show kpar yL_free 3 from ⟨by decide, by decide, by decide +kernel⟩) (by first | exact ⟨by decide, by decide⟩ | exact ⟨Nat.le_of_ble_eq_true rfl, Nat.le_of_ble_eq_true rfl⟩) (by show _ ≤ 601024; omega) (by show _ ≤ 7293034; omega) rfl (by decide) dL_law_1749 (fun v adC ctC H locs hp hW hS => ?_)
  obtain ⟨kc, a, MC, fo, fd, rfl, hlC, hlR, ⟨e0, e1, e100, e90, e91⟩, hou, hk0, hsp⟩ := hp
  rw [← e1, ← e100, ← e90, ← e91] at hL
  obtain ⟨⟨th0, sm0, hm100⟩, -⟩ := id hlR
  refine k_ist hx hb hL (i := 6) (by decide) dL_law_1752 (fun ls hL => ?_)
  replace hL := hL.nrm (l' := [some _, some _, some _, some _, some _, some _, some _, none, none, none]) rfl
  refine lv_aload_n hx hb dL_law_1754 rfl (hL.at 2 rfl) ?_
  refine lv_aload_n hx hb dL_law_1755 rfl (hL.at 0 rfl) ?_
  refine lv_iload hx hb dL_law_1756 (hL.at 5 rfl) ?_
  refine lv_iconst (v := 1) hx hb dL_law_1758 (by decide) ?_
  refine lv_iadd hx hb dL_law_1759 ?_
  refine k_sld hx hb hX hbl hbA hS (k := 1) rfl (by omega) hL3 dL_law_1760 ?_
  refine k_callV (q := (RX11, TX11, 13)) hx hb hml hown hts hK hI hS hW hL.1 (hm100) rfl (hR adC ctC hlR (e0.trans h0.2.2.2.2.2.1)) (m5 (gT_in q1352 rfl) (gT_in q1353 rfl) (gT_in q1354 rfl) (gT_in q57 rfl) (gT_in q1355 rfl)) rfl (show kpar yX11_free 1 from ⟨by decide, by decide, by decide +kernel⟩) (by first | exact ⟨by decide, by decide⟩ | exact ⟨Nat.le_of_ble_eq_true rfl, Nat.le_of_ble_eq_true rfl⟩) (by show _ ≤ 601024; omega) (by show _ ≤ 7293034; omega) rfl (by decide) dL_law_1761 (fun v adR ctR H locs hp hW hS => ?_)
  obtain ⟨bb, th, sm, MR, rfl, hmR, hlR2, hfl, f100, hspR⟩ := hp
  rw [← f100, ← (hfl 1 (by omega)).1, ← (hfl 90 (by omega)).1, ← (hfl 91 (by omega)).1] at hL
  refine k_dst hx hb hL (i := 7) (by decide) dL_law_1764 (fun ls hL => ?_)
  replace hL := hL.nrm (l' := [some _, some _, some _, some _, some _, some _, some _, some _, none, none]) rfl
  refine lv_aload_n hx hb dL_law_1766 rfl (hL.at 2 rfl) ?_
  refine k_callV (q := (RX11, TX11, 13)) hx hb hml hown hts hK hI hS hW hL.1 (hmR) rfl (r_thrown G hmR) (m5 (gT_in q912 rfl) (gT_in q913 rfl) (gT_in q914 rfl) (gT_in q57 rfl) (gT_in q915 rfl)) rfl (show kpar yX11_thrown 0 from ⟨by decide, by decide, by decide +kernel⟩) (by first | exact ⟨by decide, by decide⟩ | exact ⟨Nat.le_of_ble_eq_true rfl, Nat.le_of_ble_eq_true rfl⟩) (by show _ ≤ 601024; omega) (by show _ ≤ 7293034; omega) rfl (by decide) dL_law_1767 (fun v adT ctT H locs hp hW hS => ?_)
  obtain ⟨rfl, h1, h2⟩ := hp
  rw [h1, h2] at hW
  have hu := hok.1 _ _ _ _ _ _ hsp hspR
  refine lv_iload hx hb dL_law_1770 (hL.at 6 rfl) ?_
  refine lv_icmp_eq (tgt := 1777) hx hb dL_law_1772 (by decide) (fun c1772 => ?_) (fun c1772 => ?_)
  · try dsimp only at c1772
    
    refine lv_iload hx hb dL_law_1777 (hL.at 6 rfl) ?_
    refine lv_if_ne (tgt := 1814) hx hb dL_law_1779 (by decide) (fun c1779 => ?_) (fun c1779 => ?_)
    · try dsimp only at c1779
      refine lv_goto (tgt := 2221) hx hb dL_law_1814 (by decide) ?_
      exact W.widen (by omega) (by omega) (kk MR adR ctR H locs ls (lI_end hlC hu.2.2 hfl hlR2 (hok.2 _ _ _ hspR) (e0.trans h0.2.2.2.2.2.1) hou) hW hS (hL.le (by repeat (first | exact kle_nil | refine kle_same ?_ | refine kle_drop ?_))))
    · try dsimp only at c1779
      refine lv_aload hx hb dL_law_1782 (hL.at 4 rfl) ?_
      refine lv_iconst (v := 0) hx hb dL_law_1784 (by decide) ?_
      refine k_dald hx hb hK hW ((hfl 91 (by omega)).2.trans hou.2) 0 (by omega) (by omega) rfl dL_law_1785 ?_
      rw [hk0 c1779, hu.2.1 c1779]
      refine lv_dload hx hb dL_law_1786 (hL.at 7 rfl) ?_
      refine lv_dcmp hx hb dL_law_1788 ?_
      refine lv_if_eq (tgt := 1814) hx hb dL_law_1789 (by decide) (fun c1789 => ?_) (fun c1789 => ?_)
      · rw [cl_eq] at c1789
        
        refine lv_goto (tgt := 2221) hx hb dL_law_1814 (by decide) ?_
        exact W.widen (by omega) (by omega) (kk MR adR ctR H locs ls (lI_end hlC hu.2.2 hfl hlR2 (hok.2 _ _ _ hspR) (e0.trans h0.2.2.2.2.2.1) hou) hW hS (hL.le (by repeat (first | exact kle_nil | refine kle_same ?_ | refine kle_drop ?_))))
      · rw [cl_eq] at c1789
        
        refine lv_aload hx hb dL_law_1792 (hL.at 4 rfl) ?_
        refine lv_iconst (v := 0) hx hb dL_law_1794 (by decide) ?_
        refine k_dald hx hb hK hW ((hfl 91 (by omega)).2.trans hou.2) 0 (by omega) (by omega) rfl dL_law_1795 ?_
        rw [hk0 c1779, hu.2.1 c1779]
        refine lv_aload hx hb dL_law_1796 (hL.at 4 rfl) ?_
        refine lv_iconst (v := 0) hx hb dL_law_1798 (by decide) ?_
        refine k_dald hx hb hK hW ((hfl 91 (by omega)).2.trans hou.2) 0 (by omega) (by omega) rfl dL_law_1799 ?_
        rw [hk0 c1779, hu.2.1 c1779]
        refine lv_dcmp hx hb dL_law_1800 ?_
        refine lv_if_eq (tgt := 1812) hx hb dL_law_1801 (by decide) (fun c1801 => ?_) (fun c1801 => ?_)
        · rw [cl_eq] at c1801
          exact absurd c1801 c1789
        · rw [cl_eq] at c1801
          
          refine lv_dload hx hb dL_law_1804 (hL.at 7 rfl) ?_
          refine lv_dload hx hb dL_law_1806 (hL.at 7 rfl) ?_
          refine lv_dcmp hx hb dL_law_1808 ?_
          refine lv_if_ne (tgt := 1814) hx hb dL_law_1809 (by decide) (fun c1809 => ?_) (fun c1809 => ?_)
          · rw [cl_eq] at c1809
            
            refine lv_goto (tgt := 2221) hx hb dL_law_1814 (by decide) ?_
            exact W.widen (by omega) (by omega) (kk MR adR ctR H locs ls (lI_end hlC hu.2.2 hfl hlR2 (hok.2 _ _ _ hspR) (e0.trans h0.2.2.2.2.2.1) hou) hW hS (hL.le (by repeat (first | exact kle_nil | refine kle_same ?_ | refine kle_drop ?_))))
          · rw [cl_eq] at c1809
            exact absurd (by first | exact c1809 | exact Decidable.not_not.mp c1809) c1789
  · try dsimp only at c1772
    exact absurd hu.1.symm c1772

set_option maxHeartbeats 4000000 in
set_option maxRecDepth 100000 in
theorem L_many {l : Launch} {D : va_G} {cy : Nat → ClassId} {sad : Nat → Nat} {em : Nat} {s0 : State} {a0 : Array Value} (G : kG kSTR l D cy sad em s0 a0) {p : Program} {e : Env} {s : State} {m : MethodId} {args : Array Value} {below : List Frame} {meth : Method} {c : Code} {H : Heap} {locs : List Loc} {cells slots : Nat} {Q : State → Prop} {ls : Array Slot} {b L : Nat} {xs : Nat → Int32} {nb : Nat} {M : tM} {ad : Nat → Nat} {ct : Nat → Option va_E}
    (hx : p.tables.exec = Jvm.exec) (hb : c.code = cL_law) (hml : c.maxLocals = 10) (hown : s.vm.findClass "TailorBenchLaw" = some m.cls) (hts : ∀ w ∈ gT, w.before args s = true) (hq : ∀ w ∈ lw_tbl, kgood w = true → w.before args s = true) (hK : va_K D vwCl (ktys cy) s) (hI : kI s0 s) (hX : va_X b L xs s s.heap) (hbl : b < s.heap.size) (hbA : ¬ kA s0 b) (hnb : 7 * nb + 7 ≤ L) (hL3 : L ≤ 3584) (h0 : lI cy em nb M ad ct) (hW : kW D s0.heap.size ad ct H) (hS : va_S (kA s0) s.heap H locs) (hL : lvP ls 10 [some (.ref b), some (.ref (ad 1)), some (.ref (ad 100)), some (.ref (ad 90)), some (.ref (ad 91)), some (.int (nI (7 * nb))), none, none, none, none]) (hcl : cells + 900 ≤ 601024) (hsl : slots + 13100 ≤ 7293034)
    {sp : Int32 → Int32 → tM → Prop} (hok : spOk nb sp)
    (hC : KM l yL_many [.codeWith yL_many method_22_code 4 (some .int) [(0, 9, 12, 13)]] 8 141 2 12 [.ref (ad 1), .int (xs (7 * nb + 1)), .ref (ad 90)] D s0 ad ct (oCi cy ad M sp))
    (hR : ∀ (adC : Nat → Nat) (ctC : Nat → Option va_E), lR cy adC ctC M → adC 0 = em → KM l yX11_many [.code yX11_many prog_10_method_48_code 2 (some .int)] 5 160 2 18 [.ref (adC 100), .int (xs (7 * nb + 1))] D s0 adC ctC (oRi cy adC ctC sp))
    (kk : ∀ (M' : tM) (ad' : Nat → Nat) (ct' : Nat → Option va_E) (H' : Heap) (locs' : List Loc) (ls' : Array Slot), lI cy em (nb + 1) M' ad' ct' → kW D s0.heap.size ad' ct' H' → va_S (kA s0) s.heap H' locs' → lvP ls' 10 [some (.ref b), some (.ref (ad' 1)), some (.ref (ad' 100)), some (.ref (ad' 90)), some (.ref (ad' 91)), some (.int (nI (7 * nb))), none, none, none, none] → W p l e room_1 s m args below meth c H' locs' (cells + 900) (slots + 13100) Q (F0 m 2221 ls' [])) :
    W p l e room_1 s m args below meth c H locs cells slots Q (F0 m 1858 ls []) := by
  refine lv_aload_n hx hb dL_law_1858 rfl (hL.at 1 rfl) ?_
  refine lv_aload_n hx hb dL_law_1859 rfl (hL.at 0 rfl) ?_
  refine lv_iload hx hb dL_law_1860 (hL.at 5 rfl) ?_
  refine lv_iconst (v := 1) hx hb dL_law_1862 (by decide) ?_
  refine lv_iadd hx hb dL_law_1863 ?_
  refine k_sld hx hb hX hbl hbA hS (k := 1) rfl (by omega) hL3 dL_law_1864 ?_
  refine lv_aload_n hx hb dL_law_1865 rfl (hL.at 3 rfl) ?_
  refine k_callSH hx hb hml hown hts hI hS hW hL.1 hC (m4 (gT_in q809 rfl) (gT_in q810 rfl) (gT_in q54 rfl) (gT_in q811 rfl)) (show kpar yL_many 3 from ⟨by decide, by decide, by decide +kernel⟩) (by first | exact ⟨by decide, by decide⟩ | exact ⟨Nat.le_of_ble_eq_true rfl, Nat.le_of_ble_eq_true rfl⟩) (by show _ ≤ 601024; omega) (by show _ ≤ 7293034; omega) rfl (by decide) dL_law_1866 (fun v adC ctC H locs hp hW hS => ?_)
  obtain ⟨kc, a, MC, fo, fd, rfl, hlC, hlR, ⟨e0, e1, e100, e90, e91⟩, hou, hk0, hsp⟩ := hp
  rw [← e1, ← e100, ← e90, ← e91] at hL
  obtain ⟨⟨th0, sm0, hm100⟩, -⟩ := id hlR
  refine k_ist hx hb hL (i := 6) (by decide) dL_law_1869 (fun ls hL => ?_)
  replace hL := hL.nrm (l' := [some _, some _, some _, some _, some _, some _, some _, none, none, none]) rfl
  refine lv_aload_n hx hb dL_law_1871 rfl (hL.at 2 rfl) ?_
  refine lv_aload_n hx hb dL_law_1872 rfl (hL.at 0 rfl) ?_
  refine lv_iload hx hb dL_law_1873 (hL.at 5 rfl) ?_
  refine lv_iconst (v := 1) hx hb dL_law_1875 (by decide) ?_
  refine lv_iadd hx hb dL_law_1876 ?_
  refine k_sld hx hb hX hbl hbA hS (k := 1) rfl (by omega) hL3 dL_law_1877 ?_
  refine k_callV (q := (RX11, TX11, 13)) hx hb hml hown hts hK hI hS hW hL.1 (hm100) rfl (hR adC ctC hlR (e0.trans h0.2.2.2.2.2.1)) (m5 (gT_in q1360 rfl) (gT_in q1361 rfl) (gT_in q1362 rfl) (gT_in q57 rfl) (gT_in q1363 rfl)) rfl (show kpar yX11_many 1 from ⟨by decide, by decide, by decide +kernel⟩) (by first | exact ⟨by decide, by decide⟩ | exact ⟨Nat.le_of_ble_eq_true rfl, Nat.le_of_ble_eq_true rfl⟩) (by show _ ≤ 601024; omega) (by show _ ≤ 7293034; omega) rfl (by decide) dL_law_1878 (fun v adR ctR H locs hp hW hS => ?_)
  obtain ⟨bb, th, sm, MR, rfl, hmR, hlR2, hfl, f100, hspR⟩ := hp
  rw [← f100, ← (hfl 1 (by omega)).1, ← (hfl 90 (by omega)).1, ← (hfl 91 (by omega)).1] at hL
  refine k_ist hx hb hL (i := 7) (by decide) dL_law_1881 (fun ls hL => ?_)
  replace hL := hL.nrm (l' := [some _, some _, some _, some _, some _, some _, some _, some _, none, none]) rfl
  refine lv_aload_n hx hb dL_law_1883 rfl (hL.at 2 rfl) ?_
  refine k_callV (q := (RX11, TX11, 13)) hx hb hml hown hts hK hI hS hW hL.1 (hmR) rfl (r_thrown G hmR) (m5 (gT_in q912 rfl) (gT_in q913 rfl) (gT_in q914 rfl) (gT_in q57 rfl) (gT_in q915 rfl)) rfl (show kpar yX11_thrown 0 from ⟨by decide, by decide, by decide +kernel⟩) (by first | exact ⟨by decide, by decide⟩ | exact ⟨Nat.le_of_ble_eq_true rfl, Nat.le_of_ble_eq_true rfl⟩) (by show _ ≤ 601024; omega) (by show _ ≤ 7293034; omega) rfl (by decide) dL_law_1884 (fun v adT ctT H locs hp hW hS => ?_)
  obtain ⟨rfl, h1, h2⟩ := hp
  rw [h1, h2] at hW
  have hu := hok.1 _ _ _ _ _ _ hsp hspR
  refine lv_iload hx hb dL_law_1887 (hL.at 6 rfl) ?_
  refine lv_icmp_eq (tgt := 1894) hx hb dL_law_1889 (by decide) (fun c1889 => ?_) (fun c1889 => ?_)
  · try dsimp only at c1889
    
    refine lv_iload hx hb dL_law_1894 (hL.at 6 rfl) ?_
    refine lv_if_ne (tgt := 1911) hx hb dL_law_1896 (by decide) (fun c1896 => ?_) (fun c1896 => ?_)
    · try dsimp only at c1896
      refine lv_goto (tgt := 2221) hx hb dL_law_1911 (by decide) ?_
      exact W.widen (by omega) (by omega) (kk MR adR ctR H locs ls (lI_end hlC hu.2.2 hfl hlR2 (hok.2 _ _ _ hspR) (e0.trans h0.2.2.2.2.2.1) hou) hW hS (hL.le (by repeat (first | exact kle_nil | refine kle_same ?_ | refine kle_drop ?_))))
    · try dsimp only at c1896
      refine lv_aload_n hx hb dL_law_1899 rfl (hL.at 3 rfl) ?_
      refine lv_iconst (v := 0) hx hb dL_law_1900 (by decide) ?_
      refine k_lald hx hb hK hW ((hfl 90 (by omega)).2.trans hou.1) 0 (by omega) (by omega) rfl dL_law_1901 ?_
      rw [hk0 c1896, hu.2.1 c1896]
      refine lv_iload hx hb dL_law_1902 (hL.at 7 rfl) ?_
      refine lv_i2l hx hb dL_law_1904 rfl ?_
      refine W.lcmp hx hb dL_law_1905 ?_
      refine lv_if_eq (tgt := 1911) hx hb dL_law_1906 (by decide) (fun c1906 => ?_) (fun c1906 => ?_)
      · try dsimp only at c1906
        
        refine lv_goto (tgt := 2221) hx hb dL_law_1911 (by decide) ?_
        exact W.widen (by omega) (by omega) (kk MR adR ctR H locs ls (lI_end hlC hu.2.2 hfl hlR2 (hok.2 _ _ _ hspR) (e0.trans h0.2.2.2.2.2.1) hou) hW hS (hL.le (by repeat (first | exact kle_nil | refine kle_same ?_ | refine kle_drop ?_))))
      · try dsimp only at c1906
        exact absurd (lg_self _) c1906
  · try dsimp only at c1889
    exact absurd hu.1.symm c1889

set_option maxHeartbeats 4000000 in
set_option maxRecDepth 100000 in
theorem L_lay {l : Launch} {D : va_G} {cy : Nat → ClassId} {sad : Nat → Nat} {em : Nat} {s0 : State} {a0 : Array Value} (G : kG kSTR l D cy sad em s0 a0) {p : Program} {e : Env} {s : State} {m : MethodId} {args : Array Value} {below : List Frame} {meth : Method} {c : Code} {H : Heap} {locs : List Loc} {cells slots : Nat} {Q : State → Prop} {ls : Array Slot} {b L : Nat} {xs : Nat → Int32} {nb : Nat} {M : tM} {ad : Nat → Nat} {ct : Nat → Option va_E}
    (hx : p.tables.exec = Jvm.exec) (hb : c.code = cL_law) (hml : c.maxLocals = 10) (hown : s.vm.findClass "TailorBenchLaw" = some m.cls) (hts : ∀ w ∈ gT, w.before args s = true) (hq : ∀ w ∈ lw_tbl, kgood w = true → w.before args s = true) (hK : va_K D vwCl (ktys cy) s) (hI : kI s0 s) (hX : va_X b L xs s s.heap) (hbl : b < s.heap.size) (hbA : ¬ kA s0 b) (hnb : 7 * nb + 7 ≤ L) (hL3 : L ≤ 3584) (h0 : lI cy em nb M ad ct) (hW : kW D s0.heap.size ad ct H) (hS : va_S (kA s0) s.heap H locs) (hL : lvP ls 10 [some (.ref b), some (.ref (ad 1)), some (.ref (ad 100)), some (.ref (ad 90)), some (.ref (ad 91)), some (.int (nI (7 * nb))), none, none, none, none]) (hcl : cells + 900 ≤ 601024) (hsl : slots + 13100 ≤ 7293034)
    {sp : Int32 → UInt64 → tM → Prop} (hok : spOk nb sp)
    (hC : KM l yL_lay [.codeWith yL_lay method_23_code 7 (some .int) [(0, 13, 16, 21), (0, 13, 20, 13)]] 9 177 5 30 [.ref (ad 1), .int (xs (7 * nb + 1)), .int (xs (7 * nb + 2)), .int (xs (7 * nb + 3)), .int (xs (7 * nb + 4)), .ref (ad 91)] D s0 ad ct (oCd cy ad M sp))
    (hR : ∀ (adC : Nat → Nat) (ctC : Nat → Option va_E), lR cy adC ctC M → adC 0 = em → KM l yX11_lay_ [.code yX11_lay_ prog_10_method_50_code 5 (some .double)] 9 1580 10 183 [.ref (adC 100), .int (xs (7 * nb + 1)), .int (xs (7 * nb + 2)), .int (xs (7 * nb + 3)), .int (xs (7 * nb + 4))] D s0 adC ctC (oRd cy adC ctC sp))
    (kk : ∀ (M' : tM) (ad' : Nat → Nat) (ct' : Nat → Option va_E) (H' : Heap) (locs' : List Loc) (ls' : Array Slot), lI cy em (nb + 1) M' ad' ct' → kW D s0.heap.size ad' ct' H' → va_S (kA s0) s.heap H' locs' → lvP ls' 10 [some (.ref b), some (.ref (ad' 1)), some (.ref (ad' 100)), some (.ref (ad' 90)), some (.ref (ad' 91)), some (.int (nI (7 * nb))), none, none, none, none] → W p l e room_1 s m args below meth c H' locs' (cells + 900) (slots + 13100) Q (F0 m 2221 ls' [])) :
    W p l e room_1 s m args below meth c H locs cells slots Q (F0 m 1914 ls []) := by
  refine lv_aload_n hx hb dL_law_1914 rfl (hL.at 1 rfl) ?_
  refine lv_aload_n hx hb dL_law_1915 rfl (hL.at 0 rfl) ?_
  refine lv_iload hx hb dL_law_1916 (hL.at 5 rfl) ?_
  refine lv_iconst (v := 1) hx hb dL_law_1918 (by decide) ?_
  refine lv_iadd hx hb dL_law_1919 ?_
  refine k_sld hx hb hX hbl hbA hS (k := 1) rfl (by omega) hL3 dL_law_1920 ?_
  refine lv_aload_n hx hb dL_law_1921 rfl (hL.at 0 rfl) ?_
  refine lv_iload hx hb dL_law_1922 (hL.at 5 rfl) ?_
  refine lv_iconst (v := 2) hx hb dL_law_1924 (by decide) ?_
  refine lv_iadd hx hb dL_law_1925 ?_
  refine k_sld hx hb hX hbl hbA hS (k := 2) rfl (by omega) hL3 dL_law_1926 ?_
  refine lv_aload_n hx hb dL_law_1927 rfl (hL.at 0 rfl) ?_
  refine lv_iload hx hb dL_law_1928 (hL.at 5 rfl) ?_
  refine lv_iconst (v := 3) hx hb dL_law_1930 (by decide) ?_
  refine lv_iadd hx hb dL_law_1931 ?_
  refine k_sld hx hb hX hbl hbA hS (k := 3) rfl (by omega) hL3 dL_law_1932 ?_
  refine lv_aload_n hx hb dL_law_1933 rfl (hL.at 0 rfl) ?_
  refine lv_iload hx hb dL_law_1934 (hL.at 5 rfl) ?_
  refine lv_iconst (v := 4) hx hb dL_law_1936 (by decide) ?_
  refine lv_iadd hx hb dL_law_1937 ?_
  refine k_sld hx hb hX hbl hbA hS (k := 4) rfl (by omega) hL3 dL_law_1938 ?_
  refine lv_aload hx hb dL_law_1939 (hL.at 4 rfl) ?_
  refine k_callSH hx hb hml hown hts hI hS hW hL.1 hC (m4 (gT_in q813 rfl) (gT_in q814 rfl) (gT_in q54 rfl) (gT_in q815 rfl)) (show kpar yL_lay 6 from ⟨by decide, by decide, by decide +kernel⟩) (by first | exact ⟨by decide, by decide⟩ | exact ⟨Nat.le_of_ble_eq_true rfl, Nat.le_of_ble_eq_true rfl⟩) (by show _ ≤ 601024; omega) (by show _ ≤ 7293034; omega) rfl (by decide) dL_law_1941 (fun v adC ctC H locs hp hW hS => ?_)
  obtain ⟨kc, a, MC, fo, fd, rfl, hlC, hlR, ⟨e0, e1, e100, e90, e91⟩, hou, hk0, hsp⟩ := hp
  rw [← e1, ← e100, ← e90, ← e91] at hL
  obtain ⟨⟨th0, sm0, hm100⟩, -⟩ := id hlR
  refine k_ist hx hb hL (i := 6) (by decide) dL_law_1944 (fun ls hL => ?_)
  replace hL := hL.nrm (l' := [some _, some _, some _, some _, some _, some _, some _, none, none, none]) rfl
  refine lv_aload_n hx hb dL_law_1946 rfl (hL.at 2 rfl) ?_
  refine lv_aload_n hx hb dL_law_1947 rfl (hL.at 0 rfl) ?_
  refine lv_iload hx hb dL_law_1948 (hL.at 5 rfl) ?_
  refine lv_iconst (v := 1) hx hb dL_law_1950 (by decide) ?_
  refine lv_iadd hx hb dL_law_1951 ?_
  refine k_sld hx hb hX hbl hbA hS (k := 1) rfl (by omega) hL3 dL_law_1952 ?_
  refine lv_aload_n hx hb dL_law_1953 rfl (hL.at 0 rfl) ?_
  refine lv_iload hx hb dL_law_1954 (hL.at 5 rfl) ?_
  refine lv_iconst (v := 2) hx hb dL_law_1956 (by decide) ?_
  refine lv_iadd hx hb dL_law_1957 ?_
  refine k_sld hx hb hX hbl hbA hS (k := 2) rfl (by omega) hL3 dL_law_1958 ?_
  refine lv_aload_n hx hb dL_law_1959 rfl (hL.at 0 rfl) ?_
  refine lv_iload hx hb dL_law_1960 (hL.at 5 rfl) ?_
  refine lv_iconst (v := 3) hx hb dL_law_1962 (by decide) ?_
  refine lv_iadd hx hb dL_law_1963 ?_
  refine k_sld hx hb hX hbl hbA hS (k := 3) rfl (by omega) hL3 dL_law_1964 ?_
  refine lv_aload_n hx hb dL_law_1965 rfl (hL.at 0 rfl) ?_
  refine lv_iload hx hb dL_law_1966 (hL.at 5 rfl) ?_
  refine lv_iconst (v := 4) hx hb dL_law_1968 (by decide) ?_
  refine lv_iadd hx hb dL_law_1969 ?_
  refine k_sld hx hb hX hbl hbA hS (k := 4) rfl (by omega) hL3 dL_law_1970 ?_
  refine k_callV (q := (RX11, TX11, 13)) hx hb hml hown hts hK hI hS hW hL.1 (hm100) rfl (hR adC ctC hlR (e0.trans h0.2.2.2.2.2.1)) (m5 (gT_in q1368 rfl) (gT_in q1369 rfl) (gT_in q1370 rfl) (gT_in q57 rfl) (gT_in q1371 rfl)) rfl (show kpar yX11_lay_ 4 from ⟨by decide, by decide, by decide +kernel⟩) (by first | exact ⟨by decide, by decide⟩ | exact ⟨Nat.le_of_ble_eq_true rfl, Nat.le_of_ble_eq_true rfl⟩) (by show _ ≤ 601024; omega) (by show _ ≤ 7293034; omega) rfl (by decide) dL_law_1971 (fun v adR ctR H locs hp hW hS => ?_)
  obtain ⟨bb, th, sm, MR, rfl, hmR, hlR2, hfl, f100, hspR⟩ := hp
  rw [← f100, ← (hfl 1 (by omega)).1, ← (hfl 90 (by omega)).1, ← (hfl 91 (by omega)).1] at hL
  refine k_dst hx hb hL (i := 7) (by decide) dL_law_1974 (fun ls hL => ?_)
  replace hL := hL.nrm (l' := [some _, some _, some _, some _, some _, some _, some _, some _, none, none]) rfl
  refine lv_aload_n hx hb dL_law_1976 rfl (hL.at 2 rfl) ?_
  refine k_callV (q := (RX11, TX11, 13)) hx hb hml hown hts hK hI hS hW hL.1 (hmR) rfl (r_thrown G hmR) (m5 (gT_in q912 rfl) (gT_in q913 rfl) (gT_in q914 rfl) (gT_in q57 rfl) (gT_in q915 rfl)) rfl (show kpar yX11_thrown 0 from ⟨by decide, by decide, by decide +kernel⟩) (by first | exact ⟨by decide, by decide⟩ | exact ⟨Nat.le_of_ble_eq_true rfl, Nat.le_of_ble_eq_true rfl⟩) (by show _ ≤ 601024; omega) (by show _ ≤ 7293034; omega) rfl (by decide) dL_law_1977 (fun v adT ctT H locs hp hW hS => ?_)
  obtain ⟨rfl, h1, h2⟩ := hp
  rw [h1, h2] at hW
  have hu := hok.1 _ _ _ _ _ _ hsp hspR
  refine lv_iload hx hb dL_law_1980 (hL.at 6 rfl) ?_
  refine lv_icmp_eq (tgt := 1987) hx hb dL_law_1982 (by decide) (fun c1982 => ?_) (fun c1982 => ?_)
  · try dsimp only at c1982
    
    refine lv_iload hx hb dL_law_1987 (hL.at 6 rfl) ?_
    refine lv_if_ne (tgt := 2024) hx hb dL_law_1989 (by decide) (fun c1989 => ?_) (fun c1989 => ?_)
    · try dsimp only at c1989
      refine lv_goto (tgt := 2221) hx hb dL_law_2024 (by decide) ?_
      exact W.widen (by omega) (by omega) (kk MR adR ctR H locs ls (lI_end hlC hu.2.2 hfl hlR2 (hok.2 _ _ _ hspR) (e0.trans h0.2.2.2.2.2.1) hou) hW hS (hL.le (by repeat (first | exact kle_nil | refine kle_same ?_ | refine kle_drop ?_))))
    · try dsimp only at c1989
      refine lv_aload hx hb dL_law_1992 (hL.at 4 rfl) ?_
      refine lv_iconst (v := 0) hx hb dL_law_1994 (by decide) ?_
      refine k_dald hx hb hK hW ((hfl 91 (by omega)).2.trans hou.2) 0 (by omega) (by omega) rfl dL_law_1995 ?_
      rw [hk0 c1989, hu.2.1 c1989]
      refine lv_dload hx hb dL_law_1996 (hL.at 7 rfl) ?_
      refine lv_dcmp hx hb dL_law_1998 ?_
      refine lv_if_eq (tgt := 2024) hx hb dL_law_1999 (by decide) (fun c1999 => ?_) (fun c1999 => ?_)
      · rw [cl_eq] at c1999
        
        refine lv_goto (tgt := 2221) hx hb dL_law_2024 (by decide) ?_
        exact W.widen (by omega) (by omega) (kk MR adR ctR H locs ls (lI_end hlC hu.2.2 hfl hlR2 (hok.2 _ _ _ hspR) (e0.trans h0.2.2.2.2.2.1) hou) hW hS (hL.le (by repeat (first | exact kle_nil | refine kle_same ?_ | refine kle_drop ?_))))
      · rw [cl_eq] at c1999
        
        refine lv_aload hx hb dL_law_2002 (hL.at 4 rfl) ?_
        refine lv_iconst (v := 0) hx hb dL_law_2004 (by decide) ?_
        refine k_dald hx hb hK hW ((hfl 91 (by omega)).2.trans hou.2) 0 (by omega) (by omega) rfl dL_law_2005 ?_
        rw [hk0 c1989, hu.2.1 c1989]
        refine lv_aload hx hb dL_law_2006 (hL.at 4 rfl) ?_
        refine lv_iconst (v := 0) hx hb dL_law_2008 (by decide) ?_
        refine k_dald hx hb hK hW ((hfl 91 (by omega)).2.trans hou.2) 0 (by omega) (by omega) rfl dL_law_2009 ?_
        rw [hk0 c1989, hu.2.1 c1989]
        refine lv_dcmp hx hb dL_law_2010 ?_
        refine lv_if_eq (tgt := 2022) hx hb dL_law_2011 (by decide) (fun c2011 => ?_) (fun c2011 => ?_)
        · rw [cl_eq] at c2011
          exact absurd c2011 c1999
        · rw [cl_eq] at c2011
          
          refine lv_dload hx hb dL_law_2014 (hL.at 7 rfl) ?_
          refine lv_dload hx hb dL_law_2016 (hL.at 7 rfl) ?_
          refine lv_dcmp hx hb dL_law_2018 ?_
          refine lv_if_ne (tgt := 2024) hx hb dL_law_2019 (by decide) (fun c2019 => ?_) (fun c2019 => ?_)
          · rw [cl_eq] at c2019
            
            refine lv_goto (tgt := 2221) hx hb dL_law_2024 (by decide) ?_
            exact W.widen (by omega) (by omega) (kk MR adR ctR H locs ls (lI_end hlC hu.2.2 hfl hlR2 (hok.2 _ _ _ hspR) (e0.trans h0.2.2.2.2.2.1) hou) hW hS (hL.le (by repeat (first | exact kle_nil | refine kle_same ?_ | refine kle_drop ?_))))
          · rw [cl_eq] at c2019
            exact absurd (by first | exact c2019 | exact Decidable.not_not.mp c2019) c1999
  · try dsimp only at c1982
    exact absurd hu.1.symm c1982

set_option maxHeartbeats 4000000 in
set_option maxRecDepth 100000 in
theorem L_best {l : Launch} {D : va_G} {cy : Nat → ClassId} {sad : Nat → Nat} {em : Nat} {s0 : State} {a0 : Array Value} (G : kG kSTR l D cy sad em s0 a0) {p : Program} {e : Env} {s : State} {m : MethodId} {args : Array Value} {below : List Frame} {meth : Method} {c : Code} {H : Heap} {locs : List Loc} {cells slots : Nat} {Q : State → Prop} {ls : Array Slot} {b L : Nat} {xs : Nat → Int32} {nb : Nat} {M : tM} {ad : Nat → Nat} {ct : Nat → Option va_E}
    (hx : p.tables.exec = Jvm.exec) (hb : c.code = cL_law) (hml : c.maxLocals = 10) (hown : s.vm.findClass "TailorBenchLaw" = some m.cls) (hts : ∀ w ∈ gT, w.before args s = true) (hq : ∀ w ∈ lw_tbl, kgood w = true → w.before args s = true) (hK : va_K D vwCl (ktys cy) s) (hI : kI s0 s) (hX : va_X b L xs s s.heap) (hbl : b < s.heap.size) (hbA : ¬ kA s0 b) (hnb : 7 * nb + 7 ≤ L) (hL3 : L ≤ 3584) (h0 : lI cy em nb M ad ct) (hW : kW D s0.heap.size ad ct H) (hS : va_S (kA s0) s.heap H locs) (hL : lvP ls 10 [some (.ref b), some (.ref (ad 1)), some (.ref (ad 100)), some (.ref (ad 90)), some (.ref (ad 91)), some (.int (nI (7 * nb))), none, none, none, none]) (hcl : cells + 900 ≤ 601024) (hsl : slots + 13100 ≤ 7293034)
    {sp : Int32 → Int32 → tM → Prop} (hok : spOk nb sp)
    (hC : KM l yL_best [.codeWith yL_best method_24_code 4 (some .int) [(0, 9, 12, 21)]] 8 149 2 12 [.ref (ad 1), .int (xs (7 * nb + 1)), .ref (ad 90)] D s0 ad ct (oCi cy ad M sp))
    (hR : ∀ (adC : Nat → Nat) (ctC : Nat → Option va_E), lR cy adC ctC M → adC 0 = em → KM l yX11_best [.code yX11_best prog_10_method_52_code 2 (some .int)] 10 1610 40 732 [.ref (adC 100), .int (xs (7 * nb + 1))] D s0 adC ctC (oRi cy adC ctC sp))
    (kk : ∀ (M' : tM) (ad' : Nat → Nat) (ct' : Nat → Option va_E) (H' : Heap) (locs' : List Loc) (ls' : Array Slot), lI cy em (nb + 1) M' ad' ct' → kW D s0.heap.size ad' ct' H' → va_S (kA s0) s.heap H' locs' → lvP ls' 10 [some (.ref b), some (.ref (ad' 1)), some (.ref (ad' 100)), some (.ref (ad' 90)), some (.ref (ad' 91)), some (.int (nI (7 * nb))), none, none, none, none] → W p l e room_1 s m args below meth c H' locs' (cells + 900) (slots + 13100) Q (F0 m 2221 ls' [])) :
    W p l e room_1 s m args below meth c H locs cells slots Q (F0 m 2027 ls []) := by
  refine lv_aload_n hx hb dL_law_2027 rfl (hL.at 1 rfl) ?_
  refine lv_aload_n hx hb dL_law_2028 rfl (hL.at 0 rfl) ?_
  refine lv_iload hx hb dL_law_2029 (hL.at 5 rfl) ?_
  refine lv_iconst (v := 1) hx hb dL_law_2031 (by decide) ?_
  refine lv_iadd hx hb dL_law_2032 ?_
  refine k_sld hx hb hX hbl hbA hS (k := 1) rfl (by omega) hL3 dL_law_2033 ?_
  refine lv_aload_n hx hb dL_law_2034 rfl (hL.at 3 rfl) ?_
  refine k_callSH hx hb hml hown hts hI hS hW hL.1 hC (m4 (gT_in q817 rfl) (gT_in q818 rfl) (gT_in q54 rfl) (gT_in q819 rfl)) (show kpar yL_best 3 from ⟨by decide, by decide, by decide +kernel⟩) (by first | exact ⟨by decide, by decide⟩ | exact ⟨Nat.le_of_ble_eq_true rfl, Nat.le_of_ble_eq_true rfl⟩) (by show _ ≤ 601024; omega) (by show _ ≤ 7293034; omega) rfl (by decide) dL_law_2035 (fun v adC ctC H locs hp hW hS => ?_)
  obtain ⟨kc, a, MC, fo, fd, rfl, hlC, hlR, ⟨e0, e1, e100, e90, e91⟩, hou, hk0, hsp⟩ := hp
  rw [← e1, ← e100, ← e90, ← e91] at hL
  obtain ⟨⟨th0, sm0, hm100⟩, -⟩ := id hlR
  refine k_ist hx hb hL (i := 6) (by decide) dL_law_2038 (fun ls hL => ?_)
  replace hL := hL.nrm (l' := [some _, some _, some _, some _, some _, some _, some _, none, none, none]) rfl
  refine lv_aload_n hx hb dL_law_2040 rfl (hL.at 2 rfl) ?_
  refine lv_aload_n hx hb dL_law_2041 rfl (hL.at 0 rfl) ?_
  refine lv_iload hx hb dL_law_2042 (hL.at 5 rfl) ?_
  refine lv_iconst (v := 1) hx hb dL_law_2044 (by decide) ?_
  refine lv_iadd hx hb dL_law_2045 ?_
  refine k_sld hx hb hX hbl hbA hS (k := 1) rfl (by omega) hL3 dL_law_2046 ?_
  refine k_callV (q := (RX11, TX11, 13)) hx hb hml hown hts hK hI hS hW hL.1 (hm100) rfl (hR adC ctC hlR (e0.trans h0.2.2.2.2.2.1)) (m5 (gT_in q1377 rfl) (gT_in q1378 rfl) (gT_in q1379 rfl) (gT_in q57 rfl) (gT_in q1380 rfl)) rfl (show kpar yX11_best 1 from ⟨by decide, by decide, by decide +kernel⟩) (by first | exact ⟨by decide, by decide⟩ | exact ⟨Nat.le_of_ble_eq_true rfl, Nat.le_of_ble_eq_true rfl⟩) (by show _ ≤ 601024; omega) (by show _ ≤ 7293034; omega) rfl (by decide) dL_law_2047 (fun v adR ctR H locs hp hW hS => ?_)
  obtain ⟨bb, th, sm, MR, rfl, hmR, hlR2, hfl, f100, hspR⟩ := hp
  rw [← f100, ← (hfl 1 (by omega)).1, ← (hfl 90 (by omega)).1, ← (hfl 91 (by omega)).1] at hL
  refine k_ist hx hb hL (i := 7) (by decide) dL_law_2050 (fun ls hL => ?_)
  replace hL := hL.nrm (l' := [some _, some _, some _, some _, some _, some _, some _, some _, none, none]) rfl
  refine lv_aload_n hx hb dL_law_2052 rfl (hL.at 2 rfl) ?_
  refine k_callV (q := (RX11, TX11, 13)) hx hb hml hown hts hK hI hS hW hL.1 (hmR) rfl (r_thrown G hmR) (m5 (gT_in q912 rfl) (gT_in q913 rfl) (gT_in q914 rfl) (gT_in q57 rfl) (gT_in q915 rfl)) rfl (show kpar yX11_thrown 0 from ⟨by decide, by decide, by decide +kernel⟩) (by first | exact ⟨by decide, by decide⟩ | exact ⟨Nat.le_of_ble_eq_true rfl, Nat.le_of_ble_eq_true rfl⟩) (by show _ ≤ 601024; omega) (by show _ ≤ 7293034; omega) rfl (by decide) dL_law_2053 (fun v adT ctT H locs hp hW hS => ?_)
  obtain ⟨rfl, h1, h2⟩ := hp
  rw [h1, h2] at hW
  have hu := hok.1 _ _ _ _ _ _ hsp hspR
  refine lv_iload hx hb dL_law_2056 (hL.at 6 rfl) ?_
  refine lv_icmp_eq (tgt := 2063) hx hb dL_law_2058 (by decide) (fun c2058 => ?_) (fun c2058 => ?_)
  · try dsimp only at c2058
    
    refine lv_iload hx hb dL_law_2063 (hL.at 6 rfl) ?_
    refine lv_if_ne (tgt := 2080) hx hb dL_law_2065 (by decide) (fun c2065 => ?_) (fun c2065 => ?_)
    · try dsimp only at c2065
      refine lv_goto (tgt := 2221) hx hb dL_law_2080 (by decide) ?_
      exact W.widen (by omega) (by omega) (kk MR adR ctR H locs ls (lI_end hlC hu.2.2 hfl hlR2 (hok.2 _ _ _ hspR) (e0.trans h0.2.2.2.2.2.1) hou) hW hS (hL.le (by repeat (first | exact kle_nil | refine kle_same ?_ | refine kle_drop ?_))))
    · try dsimp only at c2065
      refine lv_aload_n hx hb dL_law_2068 rfl (hL.at 3 rfl) ?_
      refine lv_iconst (v := 0) hx hb dL_law_2069 (by decide) ?_
      refine k_lald hx hb hK hW ((hfl 90 (by omega)).2.trans hou.1) 0 (by omega) (by omega) rfl dL_law_2070 ?_
      rw [hk0 c2065, hu.2.1 c2065]
      refine lv_iload hx hb dL_law_2071 (hL.at 7 rfl) ?_
      refine lv_i2l hx hb dL_law_2073 rfl ?_
      refine W.lcmp hx hb dL_law_2074 ?_
      refine lv_if_eq (tgt := 2080) hx hb dL_law_2075 (by decide) (fun c2075 => ?_) (fun c2075 => ?_)
      · try dsimp only at c2075
        
        refine lv_goto (tgt := 2221) hx hb dL_law_2080 (by decide) ?_
        exact W.widen (by omega) (by omega) (kk MR adR ctR H locs ls (lI_end hlC hu.2.2 hfl hlR2 (hok.2 _ _ _ hspR) (e0.trans h0.2.2.2.2.2.1) hou) hW hS (hL.le (by repeat (first | exact kle_nil | refine kle_same ?_ | refine kle_drop ?_))))
      · try dsimp only at c2075
        exact absurd (lg_self _) c2075
  · try dsimp only at c2058
    exact absurd hu.1.symm c2058

set_option maxHeartbeats 4000000 in
set_option maxRecDepth 100000 in
theorem L_mate {l : Launch} {D : va_G} {cy : Nat → ClassId} {sad : Nat → Nat} {em : Nat} {s0 : State} {a0 : Array Value} (G : kG kSTR l D cy sad em s0 a0) {p : Program} {e : Env} {s : State} {m : MethodId} {args : Array Value} {below : List Frame} {meth : Method} {c : Code} {H : Heap} {locs : List Loc} {cells slots : Nat} {Q : State → Prop} {ls : Array Slot} {b L : Nat} {xs : Nat → Int32} {nb : Nat} {M : tM} {ad : Nat → Nat} {ct : Nat → Option va_E}
    (hx : p.tables.exec = Jvm.exec) (hb : c.code = cL_law) (hml : c.maxLocals = 10) (hown : s.vm.findClass "TailorBenchLaw" = some m.cls) (hts : ∀ w ∈ gT, w.before args s = true) (hq : ∀ w ∈ lw_tbl, kgood w = true → w.before args s = true) (hK : va_K D vwCl (ktys cy) s) (hI : kI s0 s) (hX : va_X b L xs s s.heap) (hbl : b < s.heap.size) (hbA : ¬ kA s0 b) (hnb : 7 * nb + 7 ≤ L) (hL3 : L ≤ 3584) (h0 : lI cy em nb M ad ct) (hW : kW D s0.heap.size ad ct H) (hS : va_S (kA s0) s.heap H locs) (hL : lvP ls 10 [some (.ref b), some (.ref (ad 1)), some (.ref (ad 100)), some (.ref (ad 90)), some (.ref (ad 91)), some (.int (nI (7 * nb))), none, none, none, none]) (hcl : cells + 900 ≤ 601024) (hsl : slots + 13100 ≤ 7293034)
    {sp : Int32 → Int32 → tM → Prop} (hok : spOk nb sp)
    (hC : KM l yL_mate [.codeWith yL_mate method_25_code 5 (some .int) [(0, 10, 13, 21)]] 8 180 3 18 [.ref (ad 1), .int (xs (7 * nb + 1)), .int (xs (7 * nb + 2)), .ref (ad 90)] D s0 ad ct (oCi cy ad M sp))
    (hR : ∀ (adC : Nat → Nat) (ctC : Nat → Option va_E), lR cy adC ctC M → adC 0 = em → KM l yX11_mate [.code yX11_mate prog_10_method_53_code 14 (some .int)] 9 1580 170 3111 [.ref (adC 100), .int (xs (7 * nb + 1)), .int (xs (7 * nb + 2))] D s0 adC ctC (oRi cy adC ctC sp))
    (kk : ∀ (M' : tM) (ad' : Nat → Nat) (ct' : Nat → Option va_E) (H' : Heap) (locs' : List Loc) (ls' : Array Slot), lI cy em (nb + 1) M' ad' ct' → kW D s0.heap.size ad' ct' H' → va_S (kA s0) s.heap H' locs' → lvP ls' 10 [some (.ref b), some (.ref (ad' 1)), some (.ref (ad' 100)), some (.ref (ad' 90)), some (.ref (ad' 91)), some (.int (nI (7 * nb))), none, none, none, none] → W p l e room_1 s m args below meth c H' locs' (cells + 900) (slots + 13100) Q (F0 m 2221 ls' [])) :
    W p l e room_1 s m args below meth c H locs cells slots Q (F0 m 2083 ls []) := by
  refine lv_aload_n hx hb dL_law_2083 rfl (hL.at 1 rfl) ?_
  refine lv_aload_n hx hb dL_law_2084 rfl (hL.at 0 rfl) ?_
  refine lv_iload hx hb dL_law_2085 (hL.at 5 rfl) ?_
  refine lv_iconst (v := 1) hx hb dL_law_2087 (by decide) ?_
  refine lv_iadd hx hb dL_law_2088 ?_
  refine k_sld hx hb hX hbl hbA hS (k := 1) rfl (by omega) hL3 dL_law_2089 ?_
  refine lv_aload_n hx hb dL_law_2090 rfl (hL.at 0 rfl) ?_
  refine lv_iload hx hb dL_law_2091 (hL.at 5 rfl) ?_
  refine lv_iconst (v := 2) hx hb dL_law_2093 (by decide) ?_
  refine lv_iadd hx hb dL_law_2094 ?_
  refine k_sld hx hb hX hbl hbA hS (k := 2) rfl (by omega) hL3 dL_law_2095 ?_
  refine lv_aload_n hx hb dL_law_2096 rfl (hL.at 3 rfl) ?_
  refine k_callSH hx hb hml hown hts hI hS hW hL.1 hC (m4 (gT_in q821 rfl) (gT_in q822 rfl) (gT_in q54 rfl) (gT_in q823 rfl)) (show kpar yL_mate 4 from ⟨by decide, by decide, by decide +kernel⟩) (by first | exact ⟨by decide, by decide⟩ | exact ⟨Nat.le_of_ble_eq_true rfl, Nat.le_of_ble_eq_true rfl⟩) (by show _ ≤ 601024; omega) (by show _ ≤ 7293034; omega) rfl (by decide) dL_law_2097 (fun v adC ctC H locs hp hW hS => ?_)
  obtain ⟨kc, a, MC, fo, fd, rfl, hlC, hlR, ⟨e0, e1, e100, e90, e91⟩, hou, hk0, hsp⟩ := hp
  rw [← e1, ← e100, ← e90, ← e91] at hL
  obtain ⟨⟨th0, sm0, hm100⟩, -⟩ := id hlR
  refine k_ist hx hb hL (i := 6) (by decide) dL_law_2100 (fun ls hL => ?_)
  replace hL := hL.nrm (l' := [some _, some _, some _, some _, some _, some _, some _, none, none, none]) rfl
  refine lv_aload_n hx hb dL_law_2102 rfl (hL.at 2 rfl) ?_
  refine lv_aload_n hx hb dL_law_2103 rfl (hL.at 0 rfl) ?_
  refine lv_iload hx hb dL_law_2104 (hL.at 5 rfl) ?_
  refine lv_iconst (v := 1) hx hb dL_law_2106 (by decide) ?_
  refine lv_iadd hx hb dL_law_2107 ?_
  refine k_sld hx hb hX hbl hbA hS (k := 1) rfl (by omega) hL3 dL_law_2108 ?_
  refine lv_aload_n hx hb dL_law_2109 rfl (hL.at 0 rfl) ?_
  refine lv_iload hx hb dL_law_2110 (hL.at 5 rfl) ?_
  refine lv_iconst (v := 2) hx hb dL_law_2112 (by decide) ?_
  refine lv_iadd hx hb dL_law_2113 ?_
  refine k_sld hx hb hX hbl hbA hS (k := 2) rfl (by omega) hL3 dL_law_2114 ?_
  refine k_callV (q := (RX11, TX11, 13)) hx hb hml hown hts hK hI hS hW hL.1 (hm100) rfl (hR adC ctC hlR (e0.trans h0.2.2.2.2.2.1)) (m5 (gT_in q1385 rfl) (gT_in q1386 rfl) (gT_in q1387 rfl) (gT_in q57 rfl) (gT_in q1388 rfl)) rfl (show kpar yX11_mate 2 from ⟨by decide, by decide, by decide +kernel⟩) (by first | exact ⟨by decide, by decide⟩ | exact ⟨Nat.le_of_ble_eq_true rfl, Nat.le_of_ble_eq_true rfl⟩) (by show _ ≤ 601024; omega) (by show _ ≤ 7293034; omega) rfl (by decide) dL_law_2115 (fun v adR ctR H locs hp hW hS => ?_)
  obtain ⟨bb, th, sm, MR, rfl, hmR, hlR2, hfl, f100, hspR⟩ := hp
  rw [← f100, ← (hfl 1 (by omega)).1, ← (hfl 90 (by omega)).1, ← (hfl 91 (by omega)).1] at hL
  refine k_ist hx hb hL (i := 7) (by decide) dL_law_2118 (fun ls hL => ?_)
  replace hL := hL.nrm (l' := [some _, some _, some _, some _, some _, some _, some _, some _, none, none]) rfl
  refine lv_aload_n hx hb dL_law_2120 rfl (hL.at 2 rfl) ?_
  refine k_callV (q := (RX11, TX11, 13)) hx hb hml hown hts hK hI hS hW hL.1 (hmR) rfl (r_thrown G hmR) (m5 (gT_in q912 rfl) (gT_in q913 rfl) (gT_in q914 rfl) (gT_in q57 rfl) (gT_in q915 rfl)) rfl (show kpar yX11_thrown 0 from ⟨by decide, by decide, by decide +kernel⟩) (by first | exact ⟨by decide, by decide⟩ | exact ⟨Nat.le_of_ble_eq_true rfl, Nat.le_of_ble_eq_true rfl⟩) (by show _ ≤ 601024; omega) (by show _ ≤ 7293034; omega) rfl (by decide) dL_law_2121 (fun v adT ctT H locs hp hW hS => ?_)
  obtain ⟨rfl, h1, h2⟩ := hp
  rw [h1, h2] at hW
  have hu := hok.1 _ _ _ _ _ _ hsp hspR
  refine lv_iload hx hb dL_law_2124 (hL.at 6 rfl) ?_
  refine lv_icmp_eq (tgt := 2131) hx hb dL_law_2126 (by decide) (fun c2126 => ?_) (fun c2126 => ?_)
  · try dsimp only at c2126
    
    refine lv_iload hx hb dL_law_2131 (hL.at 6 rfl) ?_
    refine lv_if_ne (tgt := 2148) hx hb dL_law_2133 (by decide) (fun c2133 => ?_) (fun c2133 => ?_)
    · try dsimp only at c2133
      refine lv_goto (tgt := 2221) hx hb dL_law_2148 (by decide) ?_
      exact W.widen (by omega) (by omega) (kk MR adR ctR H locs ls (lI_end hlC hu.2.2 hfl hlR2 (hok.2 _ _ _ hspR) (e0.trans h0.2.2.2.2.2.1) hou) hW hS (hL.le (by repeat (first | exact kle_nil | refine kle_same ?_ | refine kle_drop ?_))))
    · try dsimp only at c2133
      refine lv_aload_n hx hb dL_law_2136 rfl (hL.at 3 rfl) ?_
      refine lv_iconst (v := 0) hx hb dL_law_2137 (by decide) ?_
      refine k_lald hx hb hK hW ((hfl 90 (by omega)).2.trans hou.1) 0 (by omega) (by omega) rfl dL_law_2138 ?_
      rw [hk0 c2133, hu.2.1 c2133]
      refine lv_iload hx hb dL_law_2139 (hL.at 7 rfl) ?_
      refine lv_i2l hx hb dL_law_2141 rfl ?_
      refine W.lcmp hx hb dL_law_2142 ?_
      refine lv_if_eq (tgt := 2148) hx hb dL_law_2143 (by decide) (fun c2143 => ?_) (fun c2143 => ?_)
      · try dsimp only at c2143
        
        refine lv_goto (tgt := 2221) hx hb dL_law_2148 (by decide) ?_
        exact W.widen (by omega) (by omega) (kk MR adR ctR H locs ls (lI_end hlC hu.2.2 hfl hlR2 (hok.2 _ _ _ hspR) (e0.trans h0.2.2.2.2.2.1) hou) hW hS (hL.le (by repeat (first | exact kle_nil | refine kle_same ?_ | refine kle_drop ?_))))
      · try dsimp only at c2143
        exact absurd (lg_self _) c2143
  · try dsimp only at c2126
    exact absurd hu.1.symm c2126

set_option maxHeartbeats 4000000 in
set_option maxRecDepth 100000 in
theorem L_soonest {l : Launch} {D : va_G} {cy : Nat → ClassId} {sad : Nat → Nat} {em : Nat} {s0 : State} {a0 : Array Value} (G : kG kSTR l D cy sad em s0 a0) {p : Program} {e : Env} {s : State} {m : MethodId} {args : Array Value} {below : List Frame} {meth : Method} {c : Code} {H : Heap} {locs : List Loc} {cells slots : Nat} {Q : State → Prop} {ls : Array Slot} {b L : Nat} {xs : Nat → Int32} {nb : Nat} {M : tM} {ad : Nat → Nat} {ct : Nat → Option va_E}
    (hx : p.tables.exec = Jvm.exec) (hb : c.code = cL_law) (hml : c.maxLocals = 10) (hown : s.vm.findClass "TailorBenchLaw" = some m.cls) (hts : ∀ w ∈ gT, w.before args s = true) (hq : ∀ w ∈ lw_tbl, kgood w = true → w.before args s = true) (hK : va_K D vwCl (ktys cy) s) (hI : kI s0 s) (hX : va_X b L xs s s.heap) (hbl : b < s.heap.size) (hbA : ¬ kA s0 b) (hnb : 7 * nb + 7 ≤ L) (hL3 : L ≤ 3584) (h0 : lI cy em nb M ad ct) (hW : kW D s0.heap.size ad ct H) (hS : va_S (kA s0) s.heap H locs) (hL : lvP ls 10 [some (.ref b), some (.ref (ad 1)), some (.ref (ad 100)), some (.ref (ad 90)), some (.ref (ad 91)), some (.int (nI (7 * nb))), none, none, none, none]) (hcl : cells + 900 ≤ 601024) (hsl : slots + 13100 ≤ 7293034)
    {sp : Int32 → Int32 → tM → Prop} (hok : spOk nb sp)
    (hC : KM l yL_soonest [.codeWith yL_soonest method_26_code 4 (some .int) [(0, 9, 12, 21)]] 8 148 2 12 [.ref (ad 1), .int (xs (7 * nb + 1)), .ref (ad 90)] D s0 ad ct (oCi cy ad M sp))
    (hR : ∀ (adC : Nat → Nat) (ctC : Nat → Option va_E), lR cy adC ctC M → adC 0 = em → KM l yX11_soonest [.code yX11_soonest prog_10_method_55_code 2 (some .int)] 8 240 6 24 [.ref (adC 100), .int (xs (7 * nb + 1))] D s0 adC ctC (oRi cy adC ctC sp))
    (kk : ∀ (M' : tM) (ad' : Nat → Nat) (ct' : Nat → Option va_E) (H' : Heap) (locs' : List Loc) (ls' : Array Slot), lI cy em (nb + 1) M' ad' ct' → kW D s0.heap.size ad' ct' H' → va_S (kA s0) s.heap H' locs' → lvP ls' 10 [some (.ref b), some (.ref (ad' 1)), some (.ref (ad' 100)), some (.ref (ad' 90)), some (.ref (ad' 91)), some (.int (nI (7 * nb))), none, none, none, none] → W p l e room_1 s m args below meth c H' locs' (cells + 900) (slots + 13100) Q (F0 m 2221 ls' [])) :
    W p l e room_1 s m args below meth c H locs cells slots Q (F0 m 2151 ls []) := by
  refine lv_aload_n hx hb dL_law_2151 rfl (hL.at 1 rfl) ?_
  refine lv_aload_n hx hb dL_law_2152 rfl (hL.at 0 rfl) ?_
  refine lv_iload hx hb dL_law_2153 (hL.at 5 rfl) ?_
  refine lv_iconst (v := 1) hx hb dL_law_2155 (by decide) ?_
  refine lv_iadd hx hb dL_law_2156 ?_
  refine k_sld hx hb hX hbl hbA hS (k := 1) rfl (by omega) hL3 dL_law_2157 ?_
  refine lv_aload_n hx hb dL_law_2158 rfl (hL.at 3 rfl) ?_
  refine k_callSH hx hb hml hown hts hI hS hW hL.1 hC (m4 (gT_in q832 rfl) (gT_in q833 rfl) (gT_in q54 rfl) (gT_in q834 rfl)) (show kpar yL_soonest 3 from ⟨by decide, by decide, by decide +kernel⟩) (by first | exact ⟨by decide, by decide⟩ | exact ⟨Nat.le_of_ble_eq_true rfl, Nat.le_of_ble_eq_true rfl⟩) (by show _ ≤ 601024; omega) (by show _ ≤ 7293034; omega) rfl (by decide) dL_law_2159 (fun v adC ctC H locs hp hW hS => ?_)
  obtain ⟨kc, a, MC, fo, fd, rfl, hlC, hlR, ⟨e0, e1, e100, e90, e91⟩, hou, hk0, hsp⟩ := hp
  rw [← e1, ← e100, ← e90, ← e91] at hL
  obtain ⟨⟨th0, sm0, hm100⟩, -⟩ := id hlR
  refine k_ist hx hb hL (i := 6) (by decide) dL_law_2162 (fun ls hL => ?_)
  replace hL := hL.nrm (l' := [some _, some _, some _, some _, some _, some _, some _, none, none, none]) rfl
  refine lv_aload_n hx hb dL_law_2164 rfl (hL.at 2 rfl) ?_
  refine lv_aload_n hx hb dL_law_2165 rfl (hL.at 0 rfl) ?_
  refine lv_iload hx hb dL_law_2166 (hL.at 5 rfl) ?_
  refine lv_iconst (v := 1) hx hb dL_law_2168 (by decide) ?_
  refine lv_iadd hx hb dL_law_2169 ?_
  refine k_sld hx hb hX hbl hbA hS (k := 1) rfl (by omega) hL3 dL_law_2170 ?_
  refine k_callV (q := (RX11, TX11, 13)) hx hb hml hown hts hK hI hS hW hL.1 (hm100) rfl (hR adC ctC hlR (e0.trans h0.2.2.2.2.2.1)) (m5 (gT_in q1389 rfl) (gT_in q1390 rfl) (gT_in q1391 rfl) (gT_in q57 rfl) (gT_in q1392 rfl)) rfl (show kpar yX11_soonest 1 from ⟨by decide, by decide, by decide +kernel⟩) (by first | exact ⟨by decide, by decide⟩ | exact ⟨Nat.le_of_ble_eq_true rfl, Nat.le_of_ble_eq_true rfl⟩) (by show _ ≤ 601024; omega) (by show _ ≤ 7293034; omega) rfl (by decide) dL_law_2171 (fun v adR ctR H locs hp hW hS => ?_)
  obtain ⟨bb, th, sm, MR, rfl, hmR, hlR2, hfl, f100, hspR⟩ := hp
  rw [← f100, ← (hfl 1 (by omega)).1, ← (hfl 90 (by omega)).1, ← (hfl 91 (by omega)).1] at hL
  refine k_ist hx hb hL (i := 7) (by decide) dL_law_2174 (fun ls hL => ?_)
  replace hL := hL.nrm (l' := [some _, some _, some _, some _, some _, some _, some _, some _, none, none]) rfl
  refine lv_aload_n hx hb dL_law_2176 rfl (hL.at 2 rfl) ?_
  refine k_callV (q := (RX11, TX11, 13)) hx hb hml hown hts hK hI hS hW hL.1 (hmR) rfl (r_thrown G hmR) (m5 (gT_in q912 rfl) (gT_in q913 rfl) (gT_in q914 rfl) (gT_in q57 rfl) (gT_in q915 rfl)) rfl (show kpar yX11_thrown 0 from ⟨by decide, by decide, by decide +kernel⟩) (by first | exact ⟨by decide, by decide⟩ | exact ⟨Nat.le_of_ble_eq_true rfl, Nat.le_of_ble_eq_true rfl⟩) (by show _ ≤ 601024; omega) (by show _ ≤ 7293034; omega) rfl (by decide) dL_law_2177 (fun v adT ctT H locs hp hW hS => ?_)
  obtain ⟨rfl, h1, h2⟩ := hp
  rw [h1, h2] at hW
  have hu := hok.1 _ _ _ _ _ _ hsp hspR
  refine lv_iload hx hb dL_law_2180 (hL.at 6 rfl) ?_
  refine lv_icmp_eq (tgt := 2187) hx hb dL_law_2182 (by decide) (fun c2182 => ?_) (fun c2182 => ?_)
  · try dsimp only at c2182
    
    refine lv_iload hx hb dL_law_2187 (hL.at 6 rfl) ?_
    refine lv_if_ne (tgt := 2204) hx hb dL_law_2189 (by decide) (fun c2189 => ?_) (fun c2189 => ?_)
    · try dsimp only at c2189
      refine lv_goto (tgt := 2221) hx hb dL_law_2204 (by decide) ?_
      exact W.widen (by omega) (by omega) (kk MR adR ctR H locs ls (lI_end hlC hu.2.2 hfl hlR2 (hok.2 _ _ _ hspR) (e0.trans h0.2.2.2.2.2.1) hou) hW hS (hL.le (by repeat (first | exact kle_nil | refine kle_same ?_ | refine kle_drop ?_))))
    · try dsimp only at c2189
      refine lv_aload_n hx hb dL_law_2192 rfl (hL.at 3 rfl) ?_
      refine lv_iconst (v := 0) hx hb dL_law_2193 (by decide) ?_
      refine k_lald hx hb hK hW ((hfl 90 (by omega)).2.trans hou.1) 0 (by omega) (by omega) rfl dL_law_2194 ?_
      rw [hk0 c2189, hu.2.1 c2189]
      refine lv_iload hx hb dL_law_2195 (hL.at 7 rfl) ?_
      refine lv_i2l hx hb dL_law_2197 rfl ?_
      refine W.lcmp hx hb dL_law_2198 ?_
      refine lv_if_eq (tgt := 2204) hx hb dL_law_2199 (by decide) (fun c2199 => ?_) (fun c2199 => ?_)
      · try dsimp only at c2199
        
        refine lv_goto (tgt := 2221) hx hb dL_law_2204 (by decide) ?_
        exact W.widen (by omega) (by omega) (kk MR adR ctR H locs ls (lI_end hlC hu.2.2 hfl hlR2 (hok.2 _ _ _ hspR) (e0.trans h0.2.2.2.2.2.1) hou) hW hS (hL.le (by repeat (first | exact kle_nil | refine kle_same ?_ | refine kle_drop ?_))))
      · try dsimp only at c2199
        exact absurd (lg_self _) c2199
  · try dsimp only at c2182
    exact absurd hu.1.symm c2182
