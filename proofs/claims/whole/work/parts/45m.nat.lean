/-! a member of Math that the machine runs by an entry of its table: rows -/
section NATD
theorem nv_ov {tb : Tables} {e : Env} {S : State} {f : JFrame} {k : Class} {x : Method} {row : NativeRow} (h0 : f.pc = 0) (hk : S.vm.classes[f.method.cls]? = some k) (hn : k.name ∈ overriddenIn) (hl : k.loader = none) (hx : k.methods[f.method.idx]? = some x) (hr : NativeRow.find? tb.natives k.name x.name x.desc = some row) : overridden tb e S f = some row := by
  unfold overridden
  rw [h0, hk]
  have h1 : overriddenIn.contains k.name = true := List.contains_iff_mem.mpr hn
  simp [h1, hl, hx, hr]
  exact fun z => absurd hn z
variable {p : Program} {l : Launch} {e : Env} {R : Room} {s : State} {m : MethodId} {args : Array Value} {below : List Frame} {meth : Method} {c : Code} {T : State} {locs : List Loc} {cells slots : Nat}
/-- the entry of such a member: from the call to the entry's own run -/
theorem nv_enter (X : Stand p l e R s m args below meth c T locs cells slots) (hexec : p.tables.exec = Jvm.exec) {own : String} {index : Nat} {y : MethodName} (hown : s.vm.findClass own = some m.cls) (hlink : (Cond.methodLink own index y).before args s = true) (hstat : (Cond.static y).before args s = true) (hini : (Cond.initialized y.cls).before args s = true) {bytes : ByteArray} {maxL : Nat} {ret : Option FieldType} (hcode : (Cond.code y bytes maxL ret).before args s = true) (hy : y.cls ∈ overriddenIn) (hy2 : y.cls ≠ "java/lang/invoke/MethodHandle" ∧ y.cls ≠ "java/lang/invoke/VarHandle") {row : NativeRow} (hrow : NativeRow.find? p.tables.natives y.cls y.name y.desc = some row) {As : List Value} {sig : MethodDescriptor} (hsig : parseMethodDescriptor y.desc = some sig) (hlen : sig.parameters.length = As.length)
    (hgiven : ((argsToLocals As.toArray maxL).toList.filterMap fun | .val v => some v | _ => none).toArray.extract 0 As.length = As.toArray)
    {g : JFrame} (hg : g.method = m) (hsize : g.locals.size = c.maxLocals) {rest : List Value} (hstack : g.stack = As.reverse ++ rest) (hdg : decode c.code g.pc = .ok (.invokestatic index, 3)) (hframes : 1 ≤ R.frames) (hlocals : 2 * g.monitorRoom + (rest.map fun v => v.category).sum + (maxL + 11) ≤ R.locals) :
    ∃ (vm' : Vm) (mS : MethodId) (kS : Class) (methS : Method), Stand p l e R s m args below meth c (T.setVm vm') locs cells slots ∧ (T.setVm vm').vm.classes[mS.cls]? = some kS ∧ kS.name = y.cls ∧ kS.loader = none ∧ kS.methods[mS.idx]? = some methS ∧ methS.name = y.name ∧ methS.desc = y.desc ∧
      ∀ target, Steps p.tables e below (afterNative e { method := mS, args := As.toArray, locked := none } (.java { g with stack := rest } :: below) ((row.sem As.toArray).run e ((T.setVm vm').setFrames (.native { method := mS, args := As.toArray, locked := none } :: .java { g with stack := rest } :: below)))).1 target → Steps p.tables e below (T.setTop g) target := by
  obtain ⟨mS, hnS⟩ := Cond.code_named hcode
  obtain ⟨methS, cS, hmS, hcS, -, hlS, -, hkS, -, hsS⟩ := Cond.code_spec hnS hcode
  obtain ⟨kS, hkC, hkn⟩ := className_of_methodNamed hnS
  obtain ⟨hnm, hnd⟩ := name_of_methodNamed hnS hmS
  have hst := Cond.static_spec hnS hmS hstat
  have hin := Cond.initialized_spec (findClass_of_methodNamed hnS) hkC hini
  have hpl : methS.sig.parameters.length = As.length := by
    rw [hsig] at hsS
    rw [← Option.some.inj hsS]
    exact hlen
  obtain ⟨vm', X', st⟩ := X.invokestatic hexec hown hlink hnS hmS hst hkC hin hy2 hg (argsL := As) (rest := rest) hpl.symm hstack hdg
  have hal := X'.warmed.alike
  obtain ⟨k2, hk2, he2⟩ := hal.2.2 _ _ hkC
  have hkn2 : k2.name = y.cls := by rw [he2]; exact hkn
  have hb0 : kS.loader = none := Vm.bootOf_findClass (findClass_of_methodNamed hnS) hkC
  have hkl2 : k2.loader = none := by rw [he2]; exact hb0
  have hm2 : (T.setVm vm').vm.method? mS = some methS := by rw [hal.method?]; exact hmS
  have hk2b : vm'.classes[mS.cls]? = some k2 := hk2
  have hm2b : vm'.method? mS = some methS := hm2
  have hx2 : k2.methods[mS.idx]? = some methS := by simpa [Vm.method?, hk2b] using hm2b
  refine ⟨vm', mS, k2, methS, X', hk2, hkn2, hkl2, hx2, hnm, hnd, fun target hrest => st target fun acts => ?_⟩
  subst hg
  generalize T.setVm vm' = U at X' hk2 hm2 hrest hal ⊢
  obtain ⟨g₀, hr⟩ := X'.frames_eq
  have hcur : U.cur < U.threads.size := State.cur_lt_of_frames hr
  have hfull := X'.notFull (g := { g with stack := rest }) hsize (vars := maxL) hframes hlocals
  have hm3 : (U.setTop { g with stack := rest }).vm.method? mS = some methS := hm2
  rw [(doInvoke_java (s := U.setTop { g with stack := rest }) (e := e) (acts := acts) (args := As.toArray) (meth := methS) (code := cS) hm3 hcS hkS (by rw [hlS]; exact hfull)).1, hlS]
  have htop : U.setTop { g with stack := rest } = U.setFrames (.java { g with stack := rest } :: below) := State.setTop_of_frames _ hr
  have hU : (U.setTop { g with stack := rest }).pushFrame (.java { method := mS, pc := 0, locals := argsToLocals As.toArray maxL, stack := [], locked := none }) = U.setFrames (.java (entryFrame mS As.toArray maxL) :: .java { g with stack := rest } :: below) := by
    rw [htop, State.pushFrame, State.frames_setFrames _ hcur, State.setFrames_setFrames]
    rfl
  rw [hU]
  have hf1 : (U.setFrames (.java (entryFrame mS As.toArray maxL) :: .java { g with stack := rest } :: below)).frames = .java (entryFrame mS As.toArray maxL) :: .java { g with stack := rest } :: below := State.frames_setFrames _ hcur
  have hov : overridden p.tables e (U.setFrames (.java (entryFrame mS As.toArray maxL) :: .java { g with stack := rest } :: below)) (entryFrame mS As.toArray maxL) = some row :=
    nv_ov (k := k2) (x := methS) rfl hk2 (by rw [hkn2]; exact hy) hkl2 hx2 (by rw [hkn2, hnm, hnd]; exact hrow)
  have hac : argCount (U.setFrames (.java (entryFrame mS As.toArray maxL) :: .java { g with stack := rest } :: below)) (entryFrame mS As.toArray maxL).method = As.length := by
    show argCount (U.setFrames _) mS = _
    unfold argCount
    have h1 : ((U.setFrames (.java (entryFrame mS As.toArray maxL) :: .java { g with stack := rest } :: below)).vm.classes[mS.cls]?).bind (·.methods[mS.idx]?) = some methS := by
      show (U.vm.classes[mS.cls]?).bind (·.methods[mS.idx]?) = some methS
      rw [hk2]
      exact hx2
    rw [h1]
    simp [hpl, hst]
  have hstep : (stepThread p.tables e (U.setFrames (.java (entryFrame mS As.toArray maxL) :: .java { g with stack := rest } :: below))).1 = (afterNative e { method := mS, args := As.toArray, locked := none } (.java { g with stack := rest } :: below) ((row.sem As.toArray).run e (U.setFrames (.native { method := mS, args := As.toArray, locked := none } :: .java { g with stack := rest } :: below)))).1 := by
    unfold stepThread
    simp only [hf1, hov, hac]
    refine (show ∀ a : Array Value, a = As.toArray → (afterNative e { method := (entryFrame mS As.toArray maxL).method, args := a, locked := (entryFrame mS As.toArray maxL).locked } (.java { g with stack := rest } :: below) ((row.sem a).run e ((U.setFrames (.java (entryFrame mS As.toArray maxL) :: .java { g with stack := rest } :: below)).setFrames (.native { method := (entryFrame mS As.toArray maxL).method, args := a, locked := (entryFrame mS As.toArray maxL).locked } :: .java { g with stack := rest } :: below)))).1 = _ from fun a h => ?_) _ hgiven
    rw [h, State.setFrames_setFrames]
    rfl
  refine Steps.head ⟨X'.here.running, by simpa using X'.here.runnable, by simpa using X'.here.alone⟩ ⟨[.java (entryFrame mS As.toArray maxL), .java { g with stack := rest }], hf1, by simp, by simp⟩ ?_
  rw [hstep]
  exact hrest
/-- one that draws nothing and changes nothing -/
theorem nv_pure (X : Stand p l e R s m args below meth c T locs cells slots) (hexec : p.tables.exec = Jvm.exec) {own : String} {index : Nat} {y : MethodName} (hown : s.vm.findClass own = some m.cls) (hlink : (Cond.methodLink own index y).before args s = true) (hstat : (Cond.static y).before args s = true) (hini : (Cond.initialized y.cls).before args s = true) {bytes : ByteArray} {maxL : Nat} {ret : Option FieldType} (hcode : (Cond.code y bytes maxL ret).before args s = true) (hy : y.cls ∈ overriddenIn) (hy2 : y.cls ≠ "java/lang/invoke/MethodHandle" ∧ y.cls ≠ "java/lang/invoke/VarHandle") {row : NativeRow} (hrow : NativeRow.find? p.tables.natives y.cls y.name y.desc = some row) {As : List Value} {sig : MethodDescriptor} (hsig : parseMethodDescriptor y.desc = some sig) (hlen : sig.parameters.length = As.length)
    (hgiven : ((argsToLocals As.toArray maxL).toList.filterMap fun | .val v => some v | _ => none).toArray.extract 0 As.length = As.toArray)
    {r : Value} (hsem : ∀ S : State, ∃ acts, (row.sem As.toArray).run e S = .ok (some r) S acts)
    {g : JFrame} (hg : g.method = m) (hsize : g.locals.size = c.maxLocals) {rest : List Value} (hstack : g.stack = As.reverse ++ rest) (hdg : decode c.code g.pc = .ok (.invokestatic index, 3)) (hframes : 1 ≤ R.frames) (hlocals : 2 * g.monitorRoom + (rest.map fun v => v.category).sum + (maxL + 11) ≤ R.locals) :
    ∃ vm' : Vm, Stand p l e R s m args below meth c (T.setVm vm') locs cells slots ∧ ∀ target, Steps p.tables e below ((T.setVm vm').setTop { g with pc := g.pc + 3, stack := r :: rest }) target → Steps p.tables e below (T.setTop g) target := by
  obtain ⟨vm', mS, kS, methS, X', -, -, -, -, -, -, st⟩ := nv_enter X hexec hown hlink hstat hini hcode hy hy2 hrow hsig hlen hgiven hg hsize hstack hdg hframes hlocals
  refine ⟨vm', X', fun target hrest => st target ?_⟩
  subst hg
  generalize T.setVm vm' = U at X' hrest ⊢
  obtain ⟨g₀, hr⟩ := X'.frames_eq
  have hcur : U.cur < U.threads.size := State.cur_lt_of_frames hr
  obtain ⟨acts, hs⟩ := hsem (U.setFrames (.native { method := mS, args := As.toArray, locked := none } :: .java { g with stack := rest } :: below))
  rw [hs]
  have hcd : (U.setFrames (.native { method := mS, args := As.toArray, locked := none } :: .java { g with stack := rest } :: below)).code? g.method = some c := by
    have h1 := X'.here.code
    rw [State.code?_eq] at h1 ⊢
    exact h1
  have hfs : handOver (U.setFrames (.native { method := mS, args := As.toArray, locked := none } :: .java { g with stack := rest } :: below)) (some r) (.java { g with stack := rest } :: below) = some (.java { g with pc := g.pc + 3, stack := r :: rest } :: below) := by
    simp [handOver, hcd, hdg, Except.toOption]
  show Steps p.tables e below (doReturn e _ acts (some r)).1 target
  rw [doReturn_native (f := { method := mS, args := As.toArray, locked := none }) (below := .java { g with stack := rest } :: below) (State.frames_setFrames _ hcur) rfl hfs, State.setFrames_setFrames, ← State.setTop_of_frames _ hr]
  exact hrest
end NATD
section NATE
/-- the greater, or the smaller; at equals the one that isn't -0.0 (or is) -/
def fMx (b : Bool) (x y : UInt64) : UInt64 := match FP.dcmp x y with
  | some .lt => if b then y else x
  | some .gt => if b then x else y
  | _ => if (x >>> 63 == 1) == b then y else x
theorem nv_run {α : Type} {t : Sem α} {e : Env} {S : State} {v : α} (h : wpRun t (fun w s₂ _ => w = v ∧ s₂ = S) (fun _ _ _ => False) e S) : ∃ acts, t.run e S = .ok v S acts := by
  have h2 := (wpRun_iff_run _ _ _ _ _).mp h
  cases hr : t.run e S with
  | ok w s₂ acts => rw [hr] at h2; obtain ⟨rfl, rfl⟩ := h2; exact ⟨_, rfl⟩
  | ctl x s₂ acts => rw [hr] at h2; cases x <;> exact h2.elim
def nvMax : NativeRow := (NativeRow.find? Native.java_lang_Math.nans.rows "java/lang/Math" "max" "(DD)D").get (by decide +kernel)
def nvMin : NativeRow := (NativeRow.find? Native.java_lang_Math.nans.rows "java/lang/Math" "min" "(DD)D").get (by decide +kernel)
set_option maxRecDepth 100000 in
theorem nvMax_row (p : Program) : NativeRow.find? p.tables.natives "java/lang/Math" "max" "(DD)D" = some nvMax := by
  cases p <;> rfl
set_option maxRecDepth 100000 in
theorem nvMin_row (p : Program) : NativeRow.find? p.tables.natives "java/lang/Math" "min" "(DD)D" = some nvMin := by
  cases p <;> rfl
theorem nvMax_run {a b : UInt64} (ha : FP.dIsNaN a = false) (hb : FP.dIsNaN b = false) (e : Env) (S : State) : ∃ acts, (nvMax.sem #[.double a, .double b]).run e S = .ok (some (.double (fMx true a b))) S acts := by
  refine nv_run ?_
  have h : nvMax.sem #[.double a, .double b] = (do
      let r ← if FP.dIsNaN a then anyNaN64 a else if FP.dIsNaN b then anyNaN64 b else Pure.pure (fMx true a b)
      mark "nat.java_lang_Math.max"
      Pure.pure (some (.double r))) := rfl
  rw [h]
  simp [jvm, wpRun, ha, hb]
theorem nvMin_run {a b : UInt64} (ha : FP.dIsNaN a = false) (hb : FP.dIsNaN b = false) (e : Env) (S : State) : ∃ acts, (nvMin.sem #[.double a, .double b]).run e S = .ok (some (.double (fMx false a b))) S acts := by
  refine nv_run ?_
  have h : nvMin.sem #[.double a, .double b] = (do
      let r ← if FP.dIsNaN a then anyNaN64 a else if FP.dIsNaN b then anyNaN64 b else Pure.pure (fMx false a b)
      mark "nat.java_lang_Math.min"
      Pure.pure (some (.double r))) := rfl
  rw [h]
  simp [jvm, wpRun, ha, hb]
theorem nv_nn {x : UInt64} (h : vf_n64 x) : FP.dIsNaN x = false := by
  have h1 := vf_to h
  first | exact h1 | exact (FP.Core.dIsNaN_eq x).symm ▸ h1
variable {p : Program} {l : Launch} {e : Env} {R : Room} {s : State} {m : MethodId} {args : Array Value} {below : List Frame} {meth : Method} {c : Code} {H : Heap} {locs : List Loc} {cells slots : Nat} {Q : State → Prop}
variable {cc : ByteArray} {pc : Nat} {ls : Array Slot} {rest : List Value}
variable {D : va_G} {s0 : State} {cy : Nat → ClassId} {sad : Nat → Nat} {em : Nat} {a0 : Array Value}
theorem k_maxD (G : kG kSTR l D cy sad em s0 a0) (hx : p.tables.exec = Jvm.exec) (hb : c.code = cc) (hml : c.maxLocals = ls.size) {own : String} {index : Nat} (hown : s.vm.findClass own = some m.cls) (hq : ∀ w ∈ lw_tbl, kgood w = true → w.before args s = true) (hI : kI s0 s) (hlink : (Cond.methodLink own index yJ9_max_eb370).before args s = true) {x y : UInt64} (hn : vf_n64 x ∧ vf_n64 y) (hframes : 1 ≤ R.frames) (hlocals : (rest.map fun v => v.category).sum + 19 ≤ R.locals) (hdg : decode cc pc = .ok (.invokestatic index, 3))
    (kk : W p l e R s m args below meth c H locs cells slots Q (F0 m (pc + 3) ls (.double (fMx true x y) :: rest))) : W p l e R s m args below meth c H locs cells slots Q (F0 m pc ls (.double y :: .double x :: rest)) := by
  intro T hT X
  obtain ⟨vm', X', st⟩ := nv_pure X hx hown hlink (hq _ q1290 rfl) (hq _ q69 rfl) (hq _ q1291 rfl) (by decide) (by decide) (nvMax_row p) (As := [.double x, .double y]) (sig := { parameters := [.double, .double], returnType := some .double }) (by decide +kernel) rfl rfl (fun S => nvMax_run (nv_nn hn.1) (nv_nn hn.2) e S) (g := F0 m pc ls (.double y :: .double x :: rest)) rfl (by rw [hml]) rfl (by rw [hb]; exact hdg) hframes (by show 2 * 0 + _ + (4 + 11) ≤ _; omega)
  obtain ⟨t, a1, b1⟩ := kk (T.setVm vm') hT X'
  exact ⟨t, st t a1, b1⟩
theorem k_minD (G : kG kSTR l D cy sad em s0 a0) (hx : p.tables.exec = Jvm.exec) (hb : c.code = cc) (hml : c.maxLocals = ls.size) {own : String} {index : Nat} (hown : s.vm.findClass own = some m.cls) (hq : ∀ w ∈ lw_tbl, kgood w = true → w.before args s = true) (hI : kI s0 s) (hlink : (Cond.methodLink own index yJ9_min_eb370).before args s = true) {x y : UInt64} (hn : vf_n64 x ∧ vf_n64 y) (hframes : 1 ≤ R.frames) (hlocals : (rest.map fun v => v.category).sum + 19 ≤ R.locals) (hdg : decode cc pc = .ok (.invokestatic index, 3))
    (kk : W p l e R s m args below meth c H locs cells slots Q (F0 m (pc + 3) ls (.double (fMx false x y) :: rest))) : W p l e R s m args below meth c H locs cells slots Q (F0 m pc ls (.double y :: .double x :: rest)) := by
  intro T hT X
  obtain ⟨vm', X', st⟩ := nv_pure X hx hown hlink (hq _ q1304 rfl) (hq _ q69 rfl) (hq _ q1305 rfl) (by decide) (by decide) (nvMin_row p) (As := [.double x, .double y]) (sig := { parameters := [.double, .double], returnType := some .double }) (by decide +kernel) rfl rfl (fun S => nvMin_run (nv_nn hn.1) (nv_nn hn.2) e S) (g := F0 m pc ls (.double y :: .double x :: rest)) rfl (by rw [hml]) rfl (by rw [hb]; exact hdg) hframes (by show 2 * 0 + _ + (4 + 11) ≤ _; omega)
  obtain ⟨t, a1, b1⟩ := kk (T.setVm vm') hT X'
  exact ⟨t, st t a1, b1⟩
end NATE
