/-! MY KIT, 6: the reference's rows: lists' arrays, casts, interface calls, statics -/
section KITF
variable {p : Program} {l : Launch} {e : Env} {R : Room} {s : State} {m : MethodId} {args : Array Value} {below : List Frame} {meth : Method} {c : Code} {H : Heap} {locs : List Loc} {cells slots : Nat} {Q : State → Prop}
variable {cc : ByteArray} {pc nL : Nat} {ls : Array Slot} {rest : List Value}
variable {D : va_G} {s0 : State} {cy : Nat → ClassId} {b k : Nat} {ad : Nat → Nat} {ct : Nat → Option va_E} {H0 : Heap} {n : Nat} {Post : kPT} {mc ms : Nat}
/-- what a list may hold -/
def kElem (cy : Nat → ClassId) (e : va_E) : Prop := (∃ ci fs, e = .inr (ci, fs) ∧ (ci = 1 ∨ ci = 10 ∨ ci = 12)) ∨ ∃ x, e = .inl (cy 1, x)
theorem k_any {L : List (String × Nat × String)} {sad : Nat → Nat} {em : Nat} {a0 : Array Value} (G : kG L l D cy sad em s0 a0) (hI : kI s0 s) (hK : va_K D vwCl (ktys cy) s) (hW : kW D b ad ct H) {ke : Nat} {e : va_E} (he : ct ke = some e) (hel : kElem cy e)
    (h1 : Cond.castable "java/util/ArrayList" "java/lang/Object" ∈ lw_tbl) (h2 : Cond.castable "TailorBenchModel$Cloth" "java/lang/Object" ∈ lw_tbl) (h3 : Cond.castable "TailorBenchModel$Order" "java/lang/Object" ∈ lw_tbl) (h4 : Cond.castable "[I" "java/lang/Object" ∈ lw_tbl) : va_Any "java/lang/Object" s H (ad ke) := by
  have cast : ∀ {C : String}, Cond.castable C "java/lang/Object" ∈ lw_tbl → ∀ comp c0 : ClassId, s.vm.findClass "java/lang/Object" = some comp → s.vm.findClass C = some c0 → s.vm.assignable c0 comp = true := by
    intro C hC comp c0 f1 f2
    obtain ⟨c1, t1, g1, g2, g3⟩ := Cond.castable_spec (G.hq hI #[] _ hC rfl)
    rw [f2] at g1
    rw [f1] at g2
    cases g1
    cases g2
    exact g3
  rcases hel with ⟨ci, fs, rfl, q | q | q⟩ | ⟨x, rfl⟩
  · subst q; exact va_rAny hK (hW.one he) (q0 := 0) rfl rfl (cast h1)
  · subst q; exact va_rAny hK (hW.one he) (q0 := 0) rfl rfl (cast h2)
  · subst q; exact va_rAny hK (hW.one he) (q0 := 0) rfl rfl (cast h3)
  · have hf : s.vm.findClass "[I" = some (cy 1) := (hK.2 1 _ rfl).2
    obtain ⟨kC, hkC, -⟩ := Vm.findClass_spec hf
    have hc : (vp_cell (cy 1) x).cls = cy 1 := by obtain ⟨n, f | f | f | f | f⟩ := x <;> rfl
    have hv : (vp_cell (cy 1) x).vm = .none := by obtain ⟨n, f | f | f | f | f⟩ := x <;> rfl
    exact ⟨vp_cell (cy 1) x, hW.1 ke _ he, by rw [hv]; rfl, ⟨kC, by rw [hc]; exact hkC⟩, fun comp h => by rw [hc]; exact cast h4 comp _ h hf⟩
theorem k_aastO (hexec : p.tables.exec = Jvm.exec) (hb : c.code = cc) (hK : va_K D vwCl (ktys cy) s) (hW : kW D b ad ct H) (hS : va_S (fun q => b ≤ q) H0 H locs) {f : Nat → Option Nat} (he : ct k = some (.inl (cy 10, n, aQ f))) (hk0 : k ≠ 0) {v : Nat} (hr : va_Any "java/lang/Object" s H v) {i : Int32} (j : Nat) (hj : j < n) (hn : n < 2 ^ 31) (hij : i = nI j) (hdg : decode cc pc = .ok (.aastore, 1))
    (kk : ∀ (H1 : Heap) (locs1 : List Loc), kW D b ad (up ct k (.inl (cy 10, n, aQ (va_up f j (some v))))) H1 → va_S (fun q => b ≤ q) H0 H1 locs1 → W p l e R s m args below meth c H1 locs1 cells slots Q (F0 m (pc + 1) ls rest)) : W p l e R s m args below meth c H locs cells slots Q (F0 m pc ls (.ref v :: .int i :: .ref (ad k) :: rest)) := by
  subst hij
  obtain ⟨cellV, g1, g3, ⟨kC, hkC⟩, hasg⟩ := hr
  obtain ⟨kA, comp, k1, k2, k3, -⟩ := (hK.2 10 _ rfl).2
  obtain ⟨kE, hkE, -⟩ := Vm.findClass_spec k3
  refine W.aast hexec hb (hW.1 k _ he) (fun q h => by cases h) (fun h => by cases h) k1 k2 rfl hkE ⟨nI_pos (by omega), by show _ < (arrV _ _ _).slots.size; rw [arrV_size, nI_clamp (by omega)]; exact hj⟩ g1 (fun q h => by rw [h] at g3; cases g3) hkC (hasg _ k3) rfl rfl hdg fun H1 e1 z oq => ?_
  refine kk H1 _ (hW.put he ?_ oq) (hS.put z oq (hW.2.2 k _ he hk0))
  show H1[ad k]? = some (vp_cell _ _)
  rw [e1, vp_cell_q, vp_cell_q, arrV_store, nI_clamp (by omega)]
  congr 2
  funext q
  by_cases hq : q = j
  · subst hq
    simp [updV, va_up, va_rf]
  · simp [updV, va_up, hq]
theorem k_castY (hx : p.tables.exec = Jvm.exec) (hb : c.code = cc) {own nm : String} {index ci : Nat} {fs : List Value} {q : vw_C} (hown : s.vm.findClass own = some m.cls) (hlink : (Cond.classLink own index nm).before args s = true) (hcast : (Cond.castable q.1 nm).before args s = true) (hK : va_K D vwCl (ktys cy) s) (hW : kW D b ad ct H) (he : ct k = some (.inr (ci, fs))) (hc : vwCl[ci]? = some q) (hdg : decode cc pc = .ok (.checkcast index, 3))
    (kk : W p l e R s m args below meth c H locs cells slots Q (F0 m (pc + 3) ls (.ref (ad k) :: rest))) : W p l e R s m args below meth c H locs cells slots Q (F0 m pc ls (.ref (ad k) :: rest)) :=
  va_castY hx hb hown hlink (va_Nw.of rfl hcast) (va_recv hK (hW.one he) hc (q0 := 0) rfl) hdg kk
theorem k_castS (hx : p.tables.exec = Jvm.exec) (hb : c.code = cc) {own : String} {index ci : Nat} {fs : List Value} {q : vw_C} (hown : s.vm.findClass own = some m.cls) (hlink : (Cond.classLink own index q.1).before args s = true) (hK : va_K D vwCl (ktys cy) s) (hW : kW D b ad ct H) (he : ct k = some (.inr (ci, fs))) (hc : vwCl[ci]? = some q) (hdg : decode cc pc = .ok (.checkcast index, 3))
    (kk : W p l e R s m args below meth c H locs cells slots Q (F0 m (pc + 3) ls (.ref (ad k) :: rest))) : W p l e R s m args below meth c H locs cells slots Q (F0 m pc ls (.ref (ad k) :: rest)) :=
  va_castS hx hb hown hlink (hK.1 ci q hc).2 (va_recv hK (hW.one he) hc (q0 := 0) rfl) hdg kk
theorem k_castI (hx : p.tables.exec = Jvm.exec) (hb : c.code = cc) {own : String} {index : Nat} {x : vp_A} (hown : s.vm.findClass own = some m.cls) (hlink : (Cond.classLink own index "[I").before args s = true) (hK : va_K D vwCl (ktys cy) s) (hW : kW D b ad ct H) (he : ct k = some (.inl (cy 1, x))) (hdg : decode cc pc = .ok (.checkcast index, 3))
    (kk : W p l e R s m args below meth c H locs cells slots Q (F0 m (pc + 3) ls (.ref (ad k) :: rest))) : W p l e R s m args below meth c H locs cells slots Q (F0 m pc ls (.ref (ad k) :: rest)) :=
  va_castA hx hb hown hlink (hW.one he) 0 rfl (hK.2 1 _ rfl).2 hdg kk
theorem k_go5 {st0 : List Value} {a : Array Value} (hr : va_Run5 p l e R s m args below meth c H locs cells slots mc ms (F0 m pc ls st0) rest (kQ D s0 Post a) (kA s0)) (hS : va_S (kA s0) s.heap H locs)
    (kk : ∀ (v : Option Value) (ad' : Nat → Nat) (ct' : Nat → Option va_E) (H1 : Heap) (locs1 : List Loc), Post v ad' ct' → kW D s0.heap.size ad' ct' H1 → va_S (kA s0) s.heap H1 locs1 → W p l e R s m args below meth c H1 locs1 (cells + mc) (slots + ms) Q (F0 m (pc + 5) ls (v.toList ++ rest))) : W p l e R s m args below meth c H locs cells slots Q (F0 m pc ls st0) := by
  intro T hT X
  obtain ⟨v, st₀, t, T', L, h0, X', hL, e1, e2, ⟨⟨v', ad', ct', hv, hp, hw⟩, hF⟩, st⟩ := hr T hT X
  cases hv
  obtain ⟨k1, k2, k3⟩ := vx_keep h0 e1 hS (fun q _ h => h) (fun q h => h) hL hF
  obtain ⟨t2, a1, b1⟩ := kk v ad' ct' T'.heap (locs ++ L) hp (by rw [e1]; exact hw) k3 T' rfl X'
  exact ⟨t2, st t2 a1, b1⟩
theorem k_callF {L : List (String × Nat × String)} {sad : Nat → Nat} {em : Nat} {a0 : Array Value} (G : kG L l D cy sad em s0 a0) {own : String} {index count fr lc maxL : Nat} {x y : MethodName} {bytes : ByteArray} {ret : Option FieldType} {As : List Value} {ci : Nat} {fs : List Value} {q : vw_C} {st0 : List Value} (hx : p.tables.exec = Jvm.exec) (hb : c.code = cc) (hml : c.maxLocals = nL) (hown : s.vm.findClass own = some m.cls) (hts : ∀ w ∈ gT, w.before args s = true) (hK : va_K D vwCl (ktys cy) s) (hI : kI s0 s) (hS : va_S (kA s0) s.heap H locs) (hW : kW D s0.heap.size ad ct H) (hls : ls.size = nL) (he : ct k = some (.inr (ci, fs))) (hc : vwCl[ci]? = some q)
    (hM : KM l y [.code y bytes maxL ret] fr lc mc ms (.ref (ad k) :: As) D s0 ad ct Post) (hw : ∀ w ∈ va_wsF own index q.1 x y [.code y bytes maxL ret], w ∈ gT) (h1 : Cond.declares x ∈ lw_tbl) (h2 : Cond.interfaceMethod x.cls x.cls x.name x.desc ∈ lw_tbl) (h3 : Cond.publicMethod y ∈ lw_tbl) (h4 : Cond.unhidden q.1 x.name x.desc ∈ lw_tbl) (h5 : Cond.castable q.1 x.cls ∈ lw_tbl)
    (hd : x.cls ≠ "java/lang/invoke/MethodHandle" ∧ x.cls ≠ "java/lang/invoke/VarHandle" ∧ (parseMethodDescriptor x.desc).map (fun d => d.parameters.length) = some As.length) (hR : kroom fr lc maxL R) (hcells : cells + mc ≤ R.cells) (hslots : slots + ms ≤ R.slots) (hst : st0 = As.reverse ++ .ref (ad k) :: rest) (hrest : (rest.map fun v => v.category).sum ≤ 8) (hdg : decode cc pc = .ok (.invokeinterface index count, 5))
    (kk : ∀ (v : Option Value) (ad' : Nat → Nat) (ct' : Nat → Option va_E) (H1 : Heap) (locs1 : List Loc), Post v ad' ct' → kW D s0.heap.size ad' ct' H1 → va_S (kA s0) s.heap H1 locs1 → W p l e R s m args below meth c H1 locs1 (cells + mc) (slots + ms) Q (F0 m (pc + 5) ls (v.toList ++ rest))) : W p l e R s m args below meth c H locs cells slots Q (F0 m pc ls st0) := by
  subst hst
  have hF : va_Fw q.1 x y s := va_Fw.moved ⟨hd.1, hd.2.1⟩ hI.1.alike (va_Fw.of (G.1 _ h1) (G.1 _ h2) (G.1 _ h3) (G.1 _ h4) (G.1 _ h5))
  exact k_go5 (va_runF (As := As) (rest := rest) (hK.1 ci q hc).2 ⟨hx, hb, hml, hown, hts⟩ hM (va_cwF As.length hts (gT_good hw) rfl rfl rfl hF hd hR) (k_preV hK hI hS hW he hc) rfl rfl hls rfl (lv_room hrest) hdg ⟨hcells, hslots⟩) hS kk
theorem kG.hZe {L : List (String × Nat × String)} {sad : Nat → Nat} {em : Nat} {a0 : Array Value} (G : kG L l D cy sad em s0 a0) (hI : kI s0 s) : va_Z "java/util/ArrayList" "DEFAULTCAPACITY_EMPTY_ELEMENTDATA" "[Ljava/lang/Object;" (.ref em) (kA s0) s s.heap := (va_Z.moved hI.1.alike G.2.2.2.2.2.2.1).kept (fun a ha _ => hI.2.2 a ha)
theorem kG.hZm {L : List (String × Nat × String)} {sad : Nat → Nat} {em : Nat} {a0 : Array Value} (G : kG L l D cy sad em s0 a0) (hI : kI s0 s) : va_Z "java/lang/Math" "negativeZeroDoubleBits" "J" (.long (-9223372036854775808)) (kA s0) s s.heap := (va_Z.moved hI.1.alike G.2.2.2.2.2.2.2.1).kept (fun a ha _ => hI.2.2 a ha)
theorem kG.hZs {L : List (String × Nat × String)} {sad : Nat → Nat} {em : Nat} {a0 : Array Value} (G : kG L l D cy sad em s0 a0) (hI : kI s0 s) : va_Z "java/lang/StrictMath" "$assertionsDisabled" "Z" (.int 1) (kA s0) s s.heap := (va_Z.moved hI.1.alike G.2.2.2.2.2.2.2.2.1).kept (fun a ha _ => hI.2.2 a ha)
theorem k_alenE {L : List (String × Nat × String)} {sad : Nat → Nat} {em : Nat} {a0 : Array Value} (G : kG L l D cy sad em s0 a0) (hexec : p.tables.exec = Jvm.exec) (hb : c.code = cc) (hI : kI s0 s) (hS : va_S (kA s0) s.heap H locs) {a : Nat} (hem : a = em) (hdg : decode cc pc = .ok (.arraylength, 1))
    (kk : W p l e R s m args below meth c H locs cells slots Q (F0 m (pc + 1) ls (.int (nI 0) :: rest))) : W p l e R s m args below meth c H locs cells slots Q (F0 m pc ls (.ref a :: rest)) := by
  subst hem
  obtain ⟨cell, h1, h2, h3⟩ := G.2.2.2.2.2.2.2.2.2
  have hlt : a < s0.heap.size := (Array.getElem?_eq_some_iff.mp h1).1
  have h4 : H[a]? = some cell := by
    rw [hS.2.1 a (Nat.lt_of_lt_of_le hlt hI.2.1) (Nat.not_le.mpr hlt), hI.2.2 a hlt]
    exact h1
  exact W.alen (n := nI 0) hexec hb h4 (State.isArrayOf_alike hI.1.alike h2) (h3.trans rfl) rfl rfl hdg kk
/-- a world left as it was found -/
theorem kW.back {ad1 : Nat → Nat} {ct1 : Nat → Option va_E} (h : kW D b ad1 ct1 H) (hs : ∀ (j : Nat) (e : va_E), ct j = some e → ct1 j = some e ∧ ad1 j = ad j) : kW D b ad ct H :=
  ⟨fun j e hj => by
      have h1 := h.1 j e (hs j e hj).1
      rw [(hs j e hj).2] at h1
      exact h1,
    fun i j e f hi hj hij => h.2.1 i j e f (hs i e hi).1 (hs j f hj).1 (by rw [(hs i e hi).2, (hs j f hj).2]; exact hij),
    fun j e hj h0 => by
      have h1 := h.2.2 j e (hs j e hj).1 h0
      rw [(hs j e hj).2] at h1
      exact h1⟩
abbrev oLs (a n : Nat) : va_E := .inr (1, [.int (nI n), .ref a, .int (nI n)])
abbrev oIt (k n a : Nat) : va_E := .inr (0, [.int (nI k), .int (nI k - 1), .int (nI n), .ref a])
end KITF
