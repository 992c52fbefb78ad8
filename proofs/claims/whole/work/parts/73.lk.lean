/-! the law's rows: a body with handlers, its call, a catch -/
section KITL
/-- which of the three exceptions is none of the others -/
def kN3 (s0 : State) : Prop := va_Nc eSta eArg s0 ∧ va_Nc eArg eIdx s0 ∧ va_Nc eSta eIdx s0
theorem KM.ofH {L : List (String × Nat × String)} {l : Launch} {D : va_G} {cy : Nat → ClassId} {sad : Nat → Nat} {em : Nat} {s0 : State} {a0 : Array Value} {y : MethodName} {cc : ByteArray} {maxL : Nat} {ret : Option FieldType} {hh : List (Nat × Nat × Nat × Nat)} {fr lc mc ms : Nat} {As : List Value} {ad : Nat → Nat} {ct : Nat → Option va_E} {Post : kPT} (G : kG L l D cy sad em s0 a0) (hy : plainName y.cls = true) (h1 : (lg_sl As).length ≤ maxL) (h2 : (kargs As).length ≤ maxL)
    (body : ∀ (p : Program) (e : Env) (s : State) (m : MethodId) (args : Array Value) (below : List Frame) (meth : Method) (c : Code) (ls : Array Slot) (Q : State → Prop), Q = MQ below (kQ D s0 Post) args s mc ms (kA s0) → kH L l D cy sad em s0 a0 p s m args meth c cc maxL y.cls ret → c.exceptionTable.toList = tableOf hh → lvP ls maxL (kargs As ++ List.replicate (maxL - (kargs As).length) none) → kW D s0.heap.size ad ct s.heap → va_S (kA s0) s.heap s.heap [] →
      W p l e (krm fr lc mc ms) s m args below meth c s.heap [] 0 0 Q (F0 m 0 ls [])) : KM l y [.codeWith y cc maxL ret hh] fr lc mc ms As D s0 ad ct Post := by
  unfold KM Met
  refine MetFree.of_bodyS (code := cc) (maxLocals := maxL) (ret := ret) hy ?_ ?_
  · intro args s m h hn
    obtain ⟨m9, meth, c, hn9, h1, h2, h3, h4, -, h5, h6, -⟩ := Cond.codeWith_spec (atoms_spec (ws := [.codeWith y cc maxL ret hh]) h _ List.mem_cons_self)
    cases hn.symm.trans hn9
    exact ⟨meth, c, h1, h2, h3, h4, h5, h6⟩
  · intro p e s m args below meth c s₁ B hml hP _
    have hcw : (Cond.codeWith y cc maxL ret hh).before args s = true := atoms_spec (ws := [.codeWith y cc maxL ret hh]) B.pre _ List.mem_cons_self
    obtain ⟨ha, hI, hW⟩ := hP
    have hh0 : s₁.heap = s.heap := by rw [B.state]; rfl
    have K := body p e s m args below meth c _ _ rfl ⟨B.exec, B.bytes, B.returns, hml, findClass_of_methodNamed B.named, B.notSynchronized, G.hts hI _, G.hq hI _, G.hK hI, hI⟩ (vx_table (x := y) B hcw) (kent h1 h2) hW va_S.rf
    obtain ⟨t, a1, o, b1, b2, b3⟩ := K s₁ hh0 (Stand.of_body B)
    refine ⟨t, o, ?_, b1, b2, ⟨b3.1, b3.2⟩⟩
    rw [show entryFrame m args maxL = _ from (congrArg (fun z => entryFrame m z maxL) ha).trans (lg_entry_eq m As maxL)]
    exact a1
variable {p : Program} {l : Launch} {e : Env} {R : Room} {s : State} {m : MethodId} {args : Array Value} {below : List Frame} {meth : Method} {c : Code} {H : Heap} {locs : List Loc} {cells slots : Nat} {Q : State → Prop}
variable {cc : ByteArray} {pc nL : Nat} {ls : Array Slot} {rest : List Value}
variable {D : va_G} {s0 : State} {ad : Nat → Nat} {ct : Nat → Option va_E} {Post : kPT} {mc ms : Nat}
theorem k_catch {own E nm : String} {ce : Cell} {q : Addr} {hh : List (Nat × Nat × Nat × Nat)} (hown : s.vm.findClass own = some m.cls) (ht : c.exceptionTable.toList = tableOf hh) (pre suf : List (Nat × Nat × Nat × Nat)) (x : Nat × Nat × Nat × Nat) (hs : hh = pre ++ x :: suf) (hp : ∀ z ∈ pre, z.2.2.2 ≠ 0 ∧ ∃ n9 : String, (Cond.classLink own z.2.2.2 n9).before args s = true ∧ va_Nc E n9 s) (hx : covers ⟨x.1, x.2.1, x.2.2.1, x.2.2.2⟩ pc = true) (h0 : x.2.2.2 ≠ 0) (hlink : (Cond.classLink own x.2.2.2 nm).before args s = true) (hcast : (Cond.castable E nm).before args s = true) (hcell : H[q]? = some ce) (hv : ce.vm = .none) (hcl : s.vm.findClass E = some ce.cls)
    (kk : W p l e R s m args below meth c H locs cells slots Q (F0 m x.2.2.1 ls [.ref q])) : vx_W p l e R s m args below meth c H locs cells slots Q (F0 m pc ls rest) q :=
  vx_catch hown (tableOf pre) ⟨x.1, x.2.1, x.2.2.1, x.2.2.2⟩ (tableOf suf) (by rw [ht, hs]; unfold tableOf; rw [List.map_append, List.map_cons]) (fun z hz => by
    obtain ⟨w, hw, rfl⟩ := List.mem_map.mp hz
    obtain ⟨h1, h2⟩ := hp w hw
    exact Or.inr ⟨h1, h2⟩) hx h0 hlink hcast hcell hv hcl kk
/-- invokestatic of a body with handlers -/
theorem k_callSH {own : String} {index fr lc maxL : Nat} {y : MethodName} {bytes : ByteArray} {ret : Option FieldType} {hh : List (Nat × Nat × Nat × Nat)} {As : List Value} {st0 : List Value} (hx : p.tables.exec = Jvm.exec) (hb : c.code = cc) (hml : c.maxLocals = nL) (hown : s.vm.findClass own = some m.cls) (hts : ∀ w ∈ gT, w.before args s = true) (hI : kI s0 s) (hS : va_S (kA s0) s.heap H locs) (hW : kW D s0.heap.size ad ct H) (hls : ls.size = nL)
    (hM : KM l y [.codeWith y bytes maxL ret hh] fr lc mc ms As D s0 ad ct Post) (hw : ∀ w ∈ va_wsS own index y [.codeWith y bytes maxL ret hh], w ∈ gT) (hpar : kpar y As.length) (hR : kroom fr lc maxL R) (hcells : cells + mc ≤ R.cells) (hslots : slots + ms ≤ R.slots) (hst : st0 = As.reverse ++ rest) (hrest : (rest.map fun v => v.category).sum ≤ 8) (hdg : decode cc pc = .ok (.invokestatic index, 3))
    (kk : ∀ (v : Option Value) (ad' : Nat → Nat) (ct' : Nat → Option va_E) (H1 : Heap) (locs1 : List Loc), Post v ad' ct' → kW D s0.heap.size ad' ct' H1 → va_S (kA s0) s.heap H1 locs1 → W p l e R s m args below meth c H1 locs1 (cells + mc) (slots + ms) Q (F0 m (pc + 3) ls (v.toList ++ rest))) : W p l e R s m args below meth c H locs cells slots Q (F0 m pc ls st0) := by
  subst hst
  exact k_go (vx_runSW (As := As) (rest := rest) ⟨hx, hb, hml, hown, hts⟩ hM (vx_cwSW As.length hts (gT_good hw) rfl rfl rfl hpar hR) (k_preS hI hS hW) rfl rfl hls rfl (lv_room hrest) hdg ⟨hcells, hslots⟩) hS kk
end KITL
