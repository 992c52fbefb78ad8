/-! MY KIT, 5: ends and calls -/
section KITE
variable {p : Program} {l : Launch} {e : Env} {R : Room} {s : State} {m : MethodId} {args : Array Value} {below : List Frame} {meth : Method} {c : Code} {H : Heap} {locs : List Loc} {cells slots : Nat} {Q : State → Prop}
variable {cc : ByteArray} {pc nL : Nat} {ls : Array Slot} {rest : List Value}
variable {D : va_G} {s0 : State} {ad : Nat → Nat} {ct : Nat → Option va_E} {Post : kPT} {mc ms : Nat}
theorem k_q {v : Option Value} (hW : kW D s0.heap.size ad ct H) (hS : va_S (kA s0) s.heap H locs) (hp : Post v ad ct) : ∀ t : State, t.heap = H → s.WarmedH t.vm → kQ D s0 Post args s (.returned v) t :=
  fun t ht _ => ⟨⟨v, ad, ct, rfl, hp, by rw [ht]; exact hW⟩, hS.F ht⟩
theorem k_iret (hx : p.tables.exec = Jvm.exec) (hb : c.code = cc) (hr : meth.sig.returnType = some .int) (hlocks : meth.locks = false) {v : Int32} (hW : kW D s0.heap.size ad ct H) (hS : va_S (kA s0) s.heap H locs) (hk : cells ≤ mc) (hn : slots ≤ ms) (hdg : decode cc pc = .ok (.ireturn, 1)) (hp : Post (some (.int v)) ad ct) :
    W p l e R s m args below meth c H locs cells slots (MQ below (kQ D s0 Post) args s mc ms (kA s0)) (F0 m pc ls [.int v]) :=
  W.widen hk hn (W.iret hx hb hr (k_q hW hS hp) hS.2.2 hdg hlocks)
theorem k_zret (hx : p.tables.exec = Jvm.exec) (hb : c.code = cc) {ty : FieldType} (hr : meth.sig.returnType = some ty) (hlocks : meth.locks = false) {v : Int32} (hv : narrow ty (.int v) = .int v) (hW : kW D s0.heap.size ad ct H) (hS : va_S (kA s0) s.heap H locs) (hk : cells ≤ mc) (hn : slots ≤ ms) (hdg : decode cc pc = .ok (.ireturn, 1)) (hp : Post (some (.int v)) ad ct) :
    W p l e R s m args below meth c H locs cells slots (MQ below (kQ D s0 Post) args s mc ms (kA s0)) (F0 m pc ls [.int v]) :=
  W.widen hk hn (W.zret hx hb hr hv (k_q hW hS hp) hS.2.2 hdg hlocks)
theorem k_dret (hx : p.tables.exec = Jvm.exec) (hb : c.code = cc) (hr : meth.sig.returnType = some .double) (hlocks : meth.locks = false) {v : UInt64} (hW : kW D s0.heap.size ad ct H) (hS : va_S (kA s0) s.heap H locs) (hk : cells ≤ mc) (hn : slots ≤ ms) (hdg : decode cc pc = .ok (.dreturn, 1)) (hp : Post (some (.double v)) ad ct) :
    W p l e R s m args below meth c H locs cells slots (MQ below (kQ D s0 Post) args s mc ms (kA s0)) (F0 m pc ls [.double v]) :=
  W.widen hk hn (W.dret hx hb hr (k_q hW hS hp) hS.2.2 hdg hlocks)
theorem k_lret (hx : p.tables.exec = Jvm.exec) (hb : c.code = cc) (hr : meth.sig.returnType = some .long) (hlocks : meth.locks = false) {v : Int64} (hW : kW D s0.heap.size ad ct H) (hS : va_S (kA s0) s.heap H locs) (hk : cells ≤ mc) (hn : slots ≤ ms) (hdg : decode cc pc = .ok (.lreturn, 1)) (hp : Post (some (.long v)) ad ct) :
    W p l e R s m args below meth c H locs cells slots (MQ below (kQ D s0 Post) args s mc ms (kA s0)) (F0 m pc ls [.long v]) :=
  W.widen hk hn (W.lret hx hb hr (k_q hW hS hp) hS.2.2 hdg hlocks)
theorem k_vret (hx : p.tables.exec = Jvm.exec) (hb : c.code = cc) (hr : meth.sig.returnType = none) (hlocks : meth.locks = false) (hW : kW D s0.heap.size ad ct H) (hS : va_S (kA s0) s.heap H locs) (hk : cells ≤ mc) (hn : slots ≤ ms) (hdg : decode cc pc = .ok (.return_, 1)) (hp : Post none ad ct) :
    W p l e R s m args below meth c H locs cells slots (MQ below (kQ D s0 Post) args s mc ms (kA s0)) (F0 m pc ls []) :=
  W.widen hk hn (W.vret hx hb hr (k_q hW hS hp) hS.2.2 hdg hlocks)
theorem k_aret (hx : p.tables.exec = Jvm.exec) (hb : c.code = cc) {rt : FieldType} (hr : meth.sig.returnType = some rt) (hrt : (∃ n, rt = .object n) ∨ ∃ t, rt = .array t) (hlocks : meth.locks = false) {v : Value} (hv : v = .null ∨ ∃ a, v = .ref a) (hW : kW D s0.heap.size ad ct H) (hS : va_S (kA s0) s.heap H locs) (hk : cells ≤ mc) (hn : slots ≤ ms) (hdg : decode cc pc = .ok (.areturn, 1)) (hp : Post (some v) ad ct) :
    W p l e R s m args below meth c H locs cells slots (MQ below (kQ D s0 Post) args s mc ms (kA s0)) (F0 m pc ls [v]) :=
  W.widen hk hn (W.aret hx hb hr hrt hv (k_q hW hS hp) hS.2.2 hdg hlocks)
/-- behind a call that throws nothing -/
theorem k_go {st0 : List Value} {a : Array Value} (hr : va_Run p l e R s m args below meth c H locs cells slots mc ms (F0 m pc ls st0) rest (kQ D s0 Post a) (kA s0)) (hS : va_S (kA s0) s.heap H locs)
    (kk : ∀ (v : Option Value) (ad' : Nat → Nat) (ct' : Nat → Option va_E) (H1 : Heap) (locs1 : List Loc), Post v ad' ct' → kW D s0.heap.size ad' ct' H1 → va_S (kA s0) s.heap H1 locs1 → W p l e R s m args below meth c H1 locs1 (cells + mc) (slots + ms) Q (F0 m (pc + 3) ls (v.toList ++ rest))) : W p l e R s m args below meth c H locs cells slots Q (F0 m pc ls st0) := by
  intro T hT X
  obtain ⟨v, st₀, t, T', L, h0, X', hL, e1, e2, ⟨⟨v', ad', ct', hv, hp, hw⟩, hF⟩, st⟩ := hr T hT X
  cases hv
  obtain ⟨k1, k2, k3⟩ := vx_keep h0 e1 hS (fun q _ h => h) (fun q h => h) hL hF
  obtain ⟨t2, a1, b1⟩ := kk v ad' ct' T'.heap (locs ++ L) hp (by rw [e1]; exact hw) k3 T' rfl X'
  exact ⟨t2, st t2 a1, b1⟩
/-- behind a call that may throw -/
theorem k_goX {st0 : List Value} {a : Array Value} {PX : String → Prop} (hr : vx_Run p l e R s m args below meth c H locs cells slots mc ms (F0 m pc ls st0) rest (kQ D s0 Post a) (kXC D s0 ad ct PX) (kA s0)) (hS : va_S (kA s0) s.heap H locs)
    (kx : ∀ (E : String) (ce : Cell) (q9 : Addr) (H1 : Heap) (locs1 : List Loc), PX E → kW D s0.heap.size ad ct H1 → va_S (kA s0) s.heap H1 locs1 → H1[q9]? = some ce → ce.vm = .none → s.vm.findClass E = some ce.cls → vx_W p l e R s m args below meth c H1 locs1 (cells + mc) (slots + ms) Q (F0 m pc ls rest) q9)
    (kk : ∀ (v : Option Value) (ad' : Nat → Nat) (ct' : Nat → Option va_E) (H1 : Heap) (locs1 : List Loc), Post v ad' ct' → kW D s0.heap.size ad' ct' H1 → va_S (kA s0) s.heap H1 locs1 → W p l e R s m args below meth c H1 locs1 (cells + mc) (slots + ms) Q (F0 m (pc + 3) ls (v.toList ++ rest))) : W p l e R s m args below meth c H locs cells slots Q (F0 m pc ls st0) := by
  intro T hT X
  rcases hr T hT X with ⟨v, st₀, t, T', L, h0, X', hL, e1, e2, ⟨⟨v', ad', ct', hv, hp, hw⟩, hF⟩, st⟩ | ⟨q, st₀, t, T', L, E, ce, h0, X', hL, e1, e2, ⟨hp, hw, hF⟩, hce, hcv, hcl, st⟩
  · cases hv
    obtain ⟨k1, k2, k3⟩ := vx_keep h0 e1 hS (fun q _ h => h) (fun q h => h) hL hF
    obtain ⟨t2, a1, b1⟩ := kk v ad' ct' T'.heap (locs ++ L) hp (by rw [e1]; exact hw) k3 T' rfl X'
    exact ⟨t2, st t2 a1, b1⟩
  · obtain ⟨k1, k2, k3⟩ := vx_keep h0 e1 hS (fun q _ h => h) (fun q h => h) hL hF
    obtain ⟨t2, a1, b1⟩ := kx E ce q T'.heap (locs ++ L) hp (by rw [e1]; exact hw) k3 (by rw [e1]; exact hce) hcv hcl T' rfl X'
    exact ⟨t2, st.trans a1, b1⟩
theorem m5 {a b c d e : Cond} {L : List Cond} (ha : a ∈ L) (hb : b ∈ L) (hc : c ∈ L) (hd : d ∈ L) (he : e ∈ L) : ∀ w ∈ [a, b, c, d, e], w ∈ L := by
  intro w hw
  simp only [List.mem_cons, List.not_mem_nil, or_false] at hw
  rcases hw with rfl | rfl | rfl | rfl | rfl <;> assumption
theorem m4 {a b c d : Cond} {L : List Cond} (ha : a ∈ L) (hb : b ∈ L) (hc : c ∈ L) (hd : d ∈ L) : ∀ w ∈ [a, b, c, d], w ∈ L := by
  intro w hw
  simp only [List.mem_cons, List.not_mem_nil, or_false] at hw
  rcases hw with rfl | rfl | rfl | rfl <;> assumption
theorem m1 {a : Cond} {L : List Cond} (ha : a ∈ L) : ∀ w ∈ [a], w ∈ L := by
  intro w hw
  rw [List.mem_singleton] at hw
  subst hw
  exact ha
abbrev kroom (fr lc maxL : Nat) (R : Room) : Prop := fr + 1 ≤ R.frames ∧ 8 + (maxL + 11) + lc ≤ R.locals
abbrev kpar (y : MethodName) (n : Nat) : Prop := y.cls ≠ "java/lang/invoke/MethodHandle" ∧ y.cls ≠ "java/lang/invoke/VarHandle" ∧ (parseMethodDescriptor y.desc).map (fun d => d.parameters.length) = some n
section CALLS
variable {own : String} {index fr lc maxL : Nat} {y : MethodName} {bytes : ByteArray} {ret : Option FieldType} {As : List Value} {k ci : Nat} {fs : List Value} {q : vw_C} {tys : List (ClassId × FieldType)} {st0 : List Value} {PX : String → Prop}
theorem k_preS (hI : kI s0 s) (hS : va_S (kA s0) s.heap H locs) (hW : kW D s0.heap.size ad ct H) : PreS s H (kP As D s0 ad ct) As := ⟨kP_blind, fun U hU hw => ⟨rfl, hI.go hS hU hw, by rw [hU]; exact hW⟩⟩
theorem k_preV (hK : va_K D vwCl tys s) (hI : kI s0 s) (hS : va_S (kA s0) s.heap H locs) (hW : kW D s0.heap.size ad ct H) (he : ct k = some (.inr (ci, fs))) (hc : vwCl[ci]? = some q) : PreV s H q.1 (ad k) (kP (.ref (ad k) :: As) D s0 ad ct) As :=
  ⟨kP_blind, va_recv hK (hW.one he) hc (q0 := 0) rfl, fun U hU hw => ⟨rfl, hI.go hS hU hw, by rw [hU]; exact hW⟩⟩
/-- invokevirtual, own class or public -/
theorem k_callV (hx : p.tables.exec = Jvm.exec) (hb : c.code = cc) (hml : c.maxLocals = nL) (hown : s.vm.findClass own = some m.cls) (hts : ∀ w ∈ gT, w.before args s = true) (hK : va_K D vwCl tys s) (hI : kI s0 s) (hS : va_S (kA s0) s.heap H locs) (hW : kW D s0.heap.size ad ct H) (hls : ls.size = nL) (he : ct k = some (.inr (ci, fs))) (hc : vwCl[ci]? = some q)
    (hM : KM l y [.code y bytes maxL ret] fr lc mc ms (.ref (ad k) :: As) D s0 ad ct Post) (hw : ∀ w ∈ wsV own index q.1 y [.code y bytes maxL ret], w ∈ gT) (hy : y.cls = q.1) (hpar : kpar y As.length) (hR : kroom fr lc maxL R) (hcells : cells + mc ≤ R.cells) (hslots : slots + ms ≤ R.slots) (hst : st0 = As.reverse ++ .ref (ad k) :: rest) (hrest : (rest.map fun v => v.category).sum ≤ 8) (hdg : decode cc pc = .ok (.invokevirtual index, 3))
    (kk : ∀ (v : Option Value) (ad' : Nat → Nat) (ct' : Nat → Option va_E) (H1 : Heap) (locs1 : List Loc), Post v ad' ct' → kW D s0.heap.size ad' ct' H1 → va_S (kA s0) s.heap H1 locs1 → W p l e R s m args below meth c H1 locs1 (cells + mc) (slots + ms) Q (F0 m (pc + 3) ls (v.toList ++ rest))) : W p l e R s m args below meth c H locs cells slots Q (F0 m pc ls st0) := by
  subst hst
  exact k_go (va_runV (As := As) (rest := rest) ⟨hx, hb, hml, hown, hts⟩ hM (cwV As.length hts (gT_good hw) rfl rfl rfl ⟨hy, hpar⟩ hR) (k_preV hK hI hS hW he hc) rfl rfl hls rfl (lv_room hrest) hdg ⟨hcells, hslots⟩) hS kk
theorem k_callVX (hx : p.tables.exec = Jvm.exec) (hb : c.code = cc) (hml : c.maxLocals = nL) (hown : s.vm.findClass own = some m.cls) (hts : ∀ w ∈ gT, w.before args s = true) (hK : va_K D vwCl tys s) (hI : kI s0 s) (hS : va_S (kA s0) s.heap H locs) (hW : kW D s0.heap.size ad ct H) (hls : ls.size = nL) (he : ct k = some (.inr (ci, fs))) (hc : vwCl[ci]? = some q)
    (hM : KX l y [.code y bytes maxL ret] fr lc mc ms (.ref (ad k) :: As) D s0 ad ct Post PX) (hw : ∀ w ∈ wsV own index q.1 y [.code y bytes maxL ret], w ∈ gT) (hy : y.cls = q.1) (hpar : kpar y As.length) (hR : kroom fr lc maxL R) (hcells : cells + mc ≤ R.cells) (hslots : slots + ms ≤ R.slots) (hst : st0 = As.reverse ++ .ref (ad k) :: rest) (hrest : (rest.map fun v => v.category).sum ≤ 8) (hdg : decode cc pc = .ok (.invokevirtual index, 3))
    (kx : ∀ (E : String) (ce : Cell) (q9 : Addr) (H1 : Heap) (locs1 : List Loc), PX E → kW D s0.heap.size ad ct H1 → va_S (kA s0) s.heap H1 locs1 → H1[q9]? = some ce → ce.vm = .none → s.vm.findClass E = some ce.cls → vx_W p l e R s m args below meth c H1 locs1 (cells + mc) (slots + ms) Q (F0 m pc ls rest) q9)
    (kk : ∀ (v : Option Value) (ad' : Nat → Nat) (ct' : Nat → Option va_E) (H1 : Heap) (locs1 : List Loc), Post v ad' ct' → kW D s0.heap.size ad' ct' H1 → va_S (kA s0) s.heap H1 locs1 → W p l e R s m args below meth c H1 locs1 (cells + mc) (slots + ms) Q (F0 m (pc + 3) ls (v.toList ++ rest))) : W p l e R s m args below meth c H locs cells slots Q (F0 m pc ls st0) := by
  subst hst
  exact k_goX (vx_runV (As := As) (rest := rest) ⟨hx, hb, hml, hown, hts⟩ hM (cwV As.length hts (gT_good hw) rfl rfl rfl ⟨hy, hpar⟩ hR) (k_preV hK hI hS hW he hc) rfl rfl hls rfl (lv_room hrest) hdg ⟨hcells, hslots⟩) hS kx kk
/-- invokestatic -/
theorem k_callS (hx : p.tables.exec = Jvm.exec) (hb : c.code = cc) (hml : c.maxLocals = nL) (hown : s.vm.findClass own = some m.cls) (hts : ∀ w ∈ gT, w.before args s = true) (hI : kI s0 s) (hS : va_S (kA s0) s.heap H locs) (hW : kW D s0.heap.size ad ct H) (hls : ls.size = nL)
    (hM : KM l y [.code y bytes maxL ret] fr lc mc ms As D s0 ad ct Post) (hw : ∀ w ∈ va_wsS own index y [.code y bytes maxL ret], w ∈ gT) (hpar : kpar y As.length) (hR : kroom fr lc maxL R) (hcells : cells + mc ≤ R.cells) (hslots : slots + ms ≤ R.slots) (hst : st0 = As.reverse ++ rest) (hrest : (rest.map fun v => v.category).sum ≤ 8) (hdg : decode cc pc = .ok (.invokestatic index, 3))
    (kk : ∀ (v : Option Value) (ad' : Nat → Nat) (ct' : Nat → Option va_E) (H1 : Heap) (locs1 : List Loc), Post v ad' ct' → kW D s0.heap.size ad' ct' H1 → va_S (kA s0) s.heap H1 locs1 → W p l e R s m args below meth c H1 locs1 (cells + mc) (slots + ms) Q (F0 m (pc + 3) ls (v.toList ++ rest))) : W p l e R s m args below meth c H locs cells slots Q (F0 m pc ls st0) := by
  subst hst
  exact k_go (va_runS (As := As) (rest := rest) ⟨hx, hb, hml, hown, hts⟩ hM (va_cwS As.length hts (gT_good hw) rfl rfl rfl hpar hR) (k_preS hI hS hW) rfl rfl hls rfl (lv_room hrest) hdg ⟨hcells, hslots⟩) hS kk
/-- a nest mate's private method -/
theorem k_callVN {host : String} (hx : p.tables.exec = Jvm.exec) (hb : c.code = cc) (hml : c.maxLocals = nL) (hown : s.vm.findClass own = some m.cls) (hts : ∀ w ∈ gT, w.before args s = true) (hK : va_K D vwCl tys s) (hI : kI s0 s) (hS : va_S (kA s0) s.heap H locs) (hW : kW D s0.heap.size ad ct H) (hls : ls.size = nL) (he : ct k = some (.inr (ci, fs))) (hc : vwCl[ci]? = some q)
    (hM : KM l y [.code y bytes maxL ret] fr lc mc ms (.ref (ad k) :: As) D s0 ad ct Post) (hcode : .code y bytes maxL ret ∈ gT) (hl : (Cond.methodLinkNest own index y host).before args s = true) (hini : (Cond.initialized y.cls).before args s = true) (hin : (Cond.instanceMethod y).before args s = true) (hse : (Cond.selects q.1 y y).before args s = true) (hpar : kpar y As.length) (hR : kroom fr lc maxL R) (hcells : cells + mc ≤ R.cells) (hslots : slots + ms ≤ R.slots) (hst : st0 = As.reverse ++ .ref (ad k) :: rest) (hrest : (rest.map fun v => v.category).sum ≤ 8) (hdg : decode cc pc = .ok (.invokevirtual index, 3))
    (kk : ∀ (v : Option Value) (ad' : Nat → Nat) (ct' : Nat → Option va_E) (H1 : Heap) (locs1 : List Loc), Post v ad' ct' → kW D s0.heap.size ad' ct' H1 → va_S (kA s0) s.heap H1 locs1 → W p l e R s m args below meth c H1 locs1 (cells + mc) (slots + ms) Q (F0 m (pc + 3) ls (v.toList ++ rest))) : W p l e R s m args below meth c H locs cells slots Q (F0 m pc ls st0) := by
  subst hst
  exact k_go (va_runVN (As := As) (rest := rest) (host := host) ⟨hx, hb, hml, hown, hts⟩ hM ⟨va_cnB As.length hts (gT_good (m1 hcode)) rfl rfl rfl (va_Nw.of rfl hl) hini hpar hR, hin, hse⟩ (k_preV hK hI hS hW he hc) rfl rfl hls rfl (lv_room hrest) hdg ⟨hcells, hslots⟩) hS kk
theorem k_callSN {host : String} (hx : p.tables.exec = Jvm.exec) (hb : c.code = cc) (hml : c.maxLocals = nL) (hown : s.vm.findClass own = some m.cls) (hts : ∀ w ∈ gT, w.before args s = true) (hI : kI s0 s) (hS : va_S (kA s0) s.heap H locs) (hW : kW D s0.heap.size ad ct H) (hls : ls.size = nL)
    (hM : KM l y [.code y bytes maxL ret] fr lc mc ms As D s0 ad ct Post) (hcode : .code y bytes maxL ret ∈ gT) (hl : (Cond.methodLinkNest own index y host).before args s = true) (hini : (Cond.initialized y.cls).before args s = true) (hstt : (Cond.static y).before args s = true) (hpar : kpar y As.length) (hR : kroom fr lc maxL R) (hcells : cells + mc ≤ R.cells) (hslots : slots + ms ≤ R.slots) (hst : st0 = As.reverse ++ rest) (hrest : (rest.map fun v => v.category).sum ≤ 8) (hdg : decode cc pc = .ok (.invokestatic index, 3))
    (kk : ∀ (v : Option Value) (ad' : Nat → Nat) (ct' : Nat → Option va_E) (H1 : Heap) (locs1 : List Loc), Post v ad' ct' → kW D s0.heap.size ad' ct' H1 → va_S (kA s0) s.heap H1 locs1 → W p l e R s m args below meth c H1 locs1 (cells + mc) (slots + ms) Q (F0 m (pc + 3) ls (v.toList ++ rest))) : W p l e R s m args below meth c H locs cells slots Q (F0 m pc ls st0) := by
  subst hst
  exact k_go (va_runSN (As := As) (rest := rest) (host := host) ⟨hx, hb, hml, hown, hts⟩ hM ⟨va_cnB As.length hts (gT_good (m1 hcode)) rfl rfl rfl (va_Nw.of rfl hl) hini hpar hR, hstt, trivial⟩ (k_preS hI hS hW) rfl rfl hls rfl (lv_room hrest) hdg ⟨hcells, hslots⟩) hS kk
/-- a nest mate's private constructor -/
theorem k_callIN {host : String} (hx : p.tables.exec = Jvm.exec) (hb : c.code = cc) (hml : c.maxLocals = nL) (hown : s.vm.findClass own = some m.cls) (hts : ∀ w ∈ gT, w.before args s = true) (hI : kI s0 s) (hS : va_S (kA s0) s.heap H locs) (hW : kW D s0.heap.size ad ct H) (hls : ls.size = nL)
    (hM : KM l y [.code y bytes maxL none] fr lc mc ms (.ref (ad k) :: As) D s0 ad ct Post) (hcode : .code y bytes maxL none ∈ gT) (hl : (Cond.methodLinkNest own index y host).before args s = true) (hini : (Cond.initialized y.cls).before args s = true) (hin : (Cond.instanceMethod y).before args s = true) (hy1 : y.name = "<init>") (hpar : kpar y As.length) (hR : kroom fr lc maxL R) (hcells : cells + mc ≤ R.cells) (hslots : slots + ms ≤ R.slots) (hst : st0 = As.reverse ++ .ref (ad k) :: rest) (hrest : (rest.map fun v => v.category).sum ≤ 8) (hdg : decode cc pc = .ok (.invokespecial index, 3))
    (kk : ∀ (v : Option Value) (ad' : Nat → Nat) (ct' : Nat → Option va_E) (H1 : Heap) (locs1 : List Loc), Post v ad' ct' → kW D s0.heap.size ad' ct' H1 → va_S (kA s0) s.heap H1 locs1 → W p l e R s m args below meth c H1 locs1 (cells + mc) (slots + ms) Q (F0 m (pc + 3) ls (v.toList ++ rest))) : W p l e R s m args below meth c H locs cells slots Q (F0 m pc ls st0) := by
  subst hst
  exact k_go (va_runIN (As := As) (rest := rest) (host := host) ⟨hx, hb, hml, hown, hts⟩ hM ⟨va_cnB As.length hts (gT_good (m1 hcode)) rfl rfl rfl (va_Nw.of rfl hl) hini hpar hR, hy1, hin⟩ (k_preS hI hS hW) rfl rfl hls rfl (lv_room hrest) hdg ⟨hcells, hslots⟩) hS kk
theorem k_callI (hx : p.tables.exec = Jvm.exec) (hb : c.code = cc) (hml : c.maxLocals = nL) (hown : s.vm.findClass own = some m.cls) (hts : ∀ w ∈ gT, w.before args s = true) (hI : kI s0 s) (hS : va_S (kA s0) s.heap H locs) (hW : kW D s0.heap.size ad ct H) (hls : ls.size = nL)
    (hM : KM l y [.code y bytes maxL none] fr lc mc ms (.ref (ad k) :: As) D s0 ad ct Post) (hcode : .code y bytes maxL none ∈ gT) (hl : (Cond.methodLink own index y).before args s = true) (hini : (Cond.initialized y.cls).before args s = true) (hin : (Cond.instanceMethod y).before args s = true) (hy1 : y.name = "<init>") (hpar : kpar y As.length) (hR : kroom fr lc maxL R) (hcells : cells + mc ≤ R.cells) (hslots : slots + ms ≤ R.slots) (hst : st0 = As.reverse ++ .ref (ad k) :: rest) (hrest : (rest.map fun v => v.category).sum ≤ 8) (hdg : decode cc pc = .ok (.invokespecial index, 3))
    (kk : ∀ (v : Option Value) (ad' : Nat → Nat) (ct' : Nat → Option va_E) (H1 : Heap) (locs1 : List Loc), Post v ad' ct' → kW D s0.heap.size ad' ct' H1 → va_S (kA s0) s.heap H1 locs1 → W p l e R s m args below meth c H1 locs1 (cells + mc) (slots + ms) Q (F0 m (pc + 3) ls (v.toList ++ rest))) : W p l e R s m args below meth c H locs cells slots Q (F0 m pc ls st0) := by
  subst hst
  exact k_go (va_runI (As := As) (rest := rest) ⟨hx, hb, hml, hown, hts⟩ hM (cwI As.length hts (gT_good (m1 hcode)) rfl rfl rfl hini hl hin hy1 hpar hR) (k_preS hI hS hW) rfl rfl hls rfl (lv_room hrest) hdg ⟨hcells, hslots⟩) hS kk
end CALLS
/-- new X("text"), thrown out of the method -/
theorem k_throw {L : List (String × Nat × String)} {cy : Nat → ClassId} {sad : Nat → Nat} {em : Nat} {a0 : Array Value} (G : kG L l D cy sad em s0 a0) (hx : p.tables.exec = Jvm.exec) (hb : c.code = cc) (hlocks : meth.locks = false) {own cls text : String} {names : List String} {ik is ic : Nat} {PX : String → Prop} (hown : s.vm.findClass own = some m.cls) (hts : ∀ w ∈ gT, w.before args s = true) (hq : ∀ w ∈ lw_tbl, kgood w = true → w.before args s = true) (hI : kI s0 s) (hcls : Bundle.fit cls = true) (hnames : ∀ n ∈ names, Bundle.fit n = true)
    (hk : Cond.classLink own ik cls ∈ gT) (hini : Cond.initialized cls ∈ gT) (i : Nat) (hL : L[i]? = some (own, is, text)) (hat : ∀ w ∈ vx_atS own ic cls names, w.before args s = true) (hgood : ∀ w ∈ Cond.classLink own ik cls :: Cond.initialized cls :: vx_atS own ic cls names, vx_ot w = true)
    (hW : kW D s0.heap.size ad ct H) (hS : va_S (kA s0) s.heap H locs) (hsize : ls.size = c.maxLocals) (hnt : ∀ x ∈ c.exceptionTable.toList, False)
    (d0 : decode cc pc = .ok (.new ik, 3)) (d3 : decode cc (pc + 3) = .ok (.dup, 1)) (d4 : decode cc (pc + 4) = .ok (.ldc is, 2)) (d6 : decode cc (pc + 6) = .ok (.invokespecial ic, 3)) (d9 : decode cc (pc + 9) = .ok (.athrow, 1))
    (hRframes : names.length + 3 < R.frames) (hRlocals : (rest.map fun v => v.category).sum + (13 * (names.length + 1) + 43) ≤ R.locals) (hRcells : cells + 1 ≤ R.cells) (hRslots : slots + 6 ≤ R.slots) (hc : cells + 1 ≤ mc) (hs : slots + 6 ≤ ms) (hp : PX cls) :
    W p l e R s m args below meth c H locs cells slots (vx_MQ below (kQ D s0 Post) (kXC D s0 ad ct PX) args s mc ms (kA s0)) (F0 m pc ls rest) :=
  vx_throwS hx hb G.2.1 hown hcls hnames (hts _ hk) (hts _ hini) (G.hR hI i hL) hat hgood (G.hU hI) (G.hN hI) hS hsize d0 d3 d4 d6 d9 (fun x h => (hnt x h).elim) hRframes hRlocals hRcells hRslots hlocks
    (fun t ht hz ho => ⟨hp, hW.kept ho, ⟨Nat.le_trans hS.1 hz, fun q h1 h2 => (ho q (Nat.lt_of_lt_of_le h1 hS.1)).trans (hS.2.1 q h1 h2)⟩⟩) hS.2.2 hc hs
/-- new X("text") by ldc_w, thrown out of the method -/
theorem k_throwW {L : List (String × Nat × String)} {cy : Nat → ClassId} {sad : Nat → Nat} {em : Nat} {a0 : Array Value} (G : kG L l D cy sad em s0 a0) (hx : p.tables.exec = Jvm.exec) (hb : c.code = cc) (hlocks : meth.locks = false) {own cls text : String} {names : List String} {ik is ic : Nat} {PX : String → Prop} (hown : s.vm.findClass own = some m.cls) (hts : ∀ w ∈ gT, w.before args s = true) (hq : ∀ w ∈ lw_tbl, kgood w = true → w.before args s = true) (hI : kI s0 s) (hcls : Bundle.fit cls = true) (hnames : ∀ n ∈ names, Bundle.fit n = true)
    (hk : Cond.classLink own ik cls ∈ gT) (hini : Cond.initialized cls ∈ gT) (i : Nat) (hL : L[i]? = some (own, is, text)) (hat : ∀ w ∈ vx_atS own ic cls names, w.before args s = true) (hgood : ∀ w ∈ Cond.classLink own ik cls :: Cond.initialized cls :: vx_atS own ic cls names, vx_ot w = true)
    (hW : kW D s0.heap.size ad ct H) (hS : va_S (kA s0) s.heap H locs) (hsize : ls.size = c.maxLocals) (hnt : ∀ x ∈ c.exceptionTable.toList, False)
    (d0 : decode cc pc = .ok (.new ik, 3)) (d3 : decode cc (pc + 3) = .ok (.dup, 1)) (d4 : decode cc (pc + 4) = .ok (.ldc_w is, 3)) (d6 : decode cc (pc + 7) = .ok (.invokespecial ic, 3)) (d9 : decode cc (pc + 10) = .ok (.athrow, 1))
    (hRframes : names.length + 3 < R.frames) (hRlocals : (rest.map fun v => v.category).sum + (13 * (names.length + 1) + 43) ≤ R.locals) (hRcells : cells + 1 ≤ R.cells) (hRslots : slots + 6 ≤ R.slots) (hc : cells + 1 ≤ mc) (hs : slots + 6 ≤ ms) (hp : PX cls) :
    W p l e R s m args below meth c H locs cells slots (vx_MQ below (kQ D s0 Post) (kXC D s0 ad ct PX) args s mc ms (kA s0)) (F0 m pc ls rest) :=
  vx_throwSW hx hb G.2.1 hown hcls hnames (hts _ hk) (hts _ hini) (G.hR hI i hL) hat hgood (G.hU hI) (G.hN hI) hS hsize d0 d3 d4 d6 d9 (fun x h => (hnt x h).elim) hRframes hRlocals hRcells hRslots hlocks
    (fun t ht hz ho => ⟨hp, hW.kept ho, ⟨Nat.le_trans hS.1 hz, fun q h1 h2 => (ho q (Nat.lt_of_lt_of_le h1 hS.1)).trans (hS.2.1 q h1 h2)⟩⟩) hS.2.2 hc hs
/-- a callee's throw goes on to the caller -/
theorem k_out {PX : String → Prop} {own E : String} {ce : Cell} {q : Addr} (hown : s.vm.findClass own = some m.cls) (hlocks : meth.locks = false) (hnt : ∀ x ∈ c.exceptionTable.toList, False) (hW : kW D s0.heap.size ad ct H) (hS : va_S (kA s0) s.heap H locs) (hcell : H[q]? = some ce) (hv : ce.vm = .none) (hcl : s.vm.findClass E = some ce.cls) (hc : cells ≤ mc) (hs : slots ≤ ms) (hp : PX E) :
    vx_W p l e R s m args below meth c H locs cells slots (vx_MQ below (kQ D s0 Post) (kXC D s0 ad ct PX) args s mc ms (kA s0)) (F0 m pc ls rest) q :=
  vx_outP (own := own) hown hlocks (fun z h => (hnt z h).elim) hcell hv hcl (fun t ht _ => ⟨hp, by rw [ht]; exact hW, hS.F ht⟩) hS.2.2 hc hs
end KITE
/-! what a compare of doubles leaves, for a branch -/
theorem cl_eq {o : Option Ordering} : Op.cmpValue o .l = 0 ↔ o = some .eq := by rcases o with _ | (_ | _ | _) <;> decide
theorem cl_lt {o : Option Ordering} : Op.cmpValue o .l < 0 ↔ (o = some .lt ∨ o = none) := by rcases o with _ | (_ | _ | _) <;> decide
theorem cl_ge {o : Option Ordering} : 0 ≤ Op.cmpValue o .l ↔ (o = some .gt ∨ o = some .eq) := by rcases o with _ | (_ | _ | _) <;> decide
theorem cl_gt {o : Option Ordering} : 0 < Op.cmpValue o .l ↔ o = some .gt := by rcases o with _ | (_ | _ | _) <;> decide
theorem cl_le {o : Option Ordering} : Op.cmpValue o .l ≤ 0 ↔ ¬ o = some .gt := by rcases o with _ | (_ | _ | _) <;> decide
theorem cg_eq {o : Option Ordering} : Op.cmpValue o .g = 0 ↔ o = some .eq := by rcases o with _ | (_ | _ | _) <;> decide
theorem cg_lt {o : Option Ordering} : Op.cmpValue o .g < 0 ↔ o = some .lt := by rcases o with _ | (_ | _ | _) <;> decide
theorem cg_ge {o : Option Ordering} : 0 ≤ Op.cmpValue o .g ↔ ¬ o = some .lt := by rcases o with _ | (_ | _ | _) <;> decide
theorem cg_gt {o : Option Ordering} : 0 < Op.cmpValue o .g ↔ (o = some .gt ∨ o = none) := by rcases o with _ | (_ | _ | _) <;> decide
theorem cg_le {o : Option Ordering} : Op.cmpValue o .g ≤ 0 ↔ (o = some .lt ∨ o = some .eq) := by rcases o with _ | (_ | _ | _) <;> decide
