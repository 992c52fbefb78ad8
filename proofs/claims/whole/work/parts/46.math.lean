/-! Math.ceil: the entry calls StrictMath.ceil -/
section NATF
def nvCeil : NativeRow := (NativeRow.find? Native.java_lang_Math.nans.rows "java/lang/Math" "ceil" "(D)D").get (by decide +kernel)
set_option maxRecDepth 100000 in
theorem nvCeil_row (p : Program) : NativeRow.find? p.tables.natives "java/lang/Math" "ceil" "(D)D" = some nvCeil := by
  cases p <;> rfl
theorem nvCeil_run (x : UInt64) (e : Env) (S : State) {cS : ClassId} {kS : Class} {i : Nat} (hf : S.vm.findClass "java/lang/StrictMath" = some cS) (hk : S.vm.classes[cS]? = some kS) (hi : kS.init = .initialized) (hm : kS.findMethod "ceil" "(D)D" = some i) : ∃ acts, (nvCeil.sem #[.double x]).run e S = .ctl (.call ⟨cS, i⟩ #[.double x] 1 #[]) S acts := by
  have h : nvCeil.sem #[.double x] = (do
      let c ← classNamed "java/lang/StrictMath"
      ensureInit c
      let some i := (← theClass c).findMethod "ceil" "(D)D" | modelBug ("StrictMath lacks " ++ "ceil")
      callThen ⟨c, i⟩ #[.double x] 1 #[]) := rfl
  have hw : wpRun (nvCeil.sem #[.double x]) (fun _ _ _ => False) (fun c s₂ _ => c = .call ⟨cS, i⟩ #[.double x] 1 #[] ∧ s₂ = S) e S := by
    rw [h]
    simp [jvm, wpRun, W.classNamed_ready hf, W.ensureInit_ready ⟨kS, hk, hi⟩, theClass, callThen, hk, hm]
    exact ⟨rfl, rfl, rfl, rfl⟩
  have h2 := (wpRun_iff_run _ _ _ _ _).mp hw
  cases hr : (nvCeil.sem #[.double x]).run e S with
  | ok v s₂ acts => rw [hr] at h2; exact h2.elim
  | ctl y s₂ acts =>
    rw [hr] at h2
    have h3 : y = .call ⟨cS, i⟩ #[.double x] 1 #[] ∧ s₂ = S := by cases y <;> first | exact h2 | exact h2.elim
    obtain ⟨rfl, rfl⟩ := h3
    exact ⟨_, rfl⟩
theorem nvCeil_back {r : UInt64} (hn : r &&& 0x7fffffffffffffff ≤ 0x7ff0000000000000) (e : Env) (S : State) : ∃ acts, (nvCeil.resume 1 #[] (.returned (some (.double r)))).run e S = .ok (some (.double r)) S acts := by
  refine nv_run ?_
  have h : nvCeil.resume 1 #[] (.returned (some (.double r))) = (do
      let r ← anyNaN64 r
      mark "nat.java_lang_Math.ceil"
      Pure.pure (some (.double r))) := rfl
  rw [h]
  simp [jvm, wpRun, anyNaN64, hn]
theorem nv_bytes (s : State) (F : List Frame) : (s.setFrames F).me.stackBytes = s.me.stackBytes := by
  unfold State.me State.setFrames
  simp only [Array.getElem?_modify]
  cases s.threads[s.cur]? <;> simp
/-- room above a native's frame: it is one frame and weighs 1,024 words -/
theorem nv_room {s : State} {pl : Platform} {m : MethodId} {a : Array Value} {nf : NFrame} {g : JFrame} {r : List Frame} {fr lc cn sn : Nat} (hcur : s.cur < s.threads.size) (hw : nf.words ≤ 1024)
    (h : (s.setFrames (.invoking m a :: .java g :: r)).hasRoom pl { frames := fr + 1, locals := lc + 1024, cells := cn, slots := sn } = true) :
    (s.setFrames (.invoking m a :: .native nf :: .java g :: r)).hasRoom pl { frames := fr, locals := lc, cells := cn, slots := sn } = true := by
  have hwt : Frame.weight (.native nf) = 1024 := by show max nf.words vmFrameWords = 1024; unfold vmFrameWords; omega
  have e : (s.setFrames (.invoking m a :: .native nf :: .java g :: r)).vm = (s.setFrames (.invoking m a :: .java g :: r)).vm := rfl
  simp only [State.hasRoom, Bool.and_eq_true, decide_eq_true_eq, State.frames_setFrames _ hcur, State.stackLimits_setFrames, nv_bytes, State.localsInUse, stackWeight, List.map_cons, List.sum_cons, List.length_cons, hwt] at h ⊢
  obtain ⟨⟨⟨⟨a0, a1, a2, a3, a4, a5⟩, b1⟩, c1⟩, d1⟩ := h
  exact ⟨⟨⟨⟨by rw [e]; omega, by omega, by omega, by rw [e]; omega, by rw [e]; omega, a5⟩, b1⟩, c1⟩, d1⟩
theorem nv_resumed {tb : Tables} {e : Env} {s : State} {f : NFrame} {rest : List Frame} {k : Class} {x : Method} {row : NativeRow} {o : Outcome} (hf : s.frames = .native f :: rest) (hk : s.vm.classes[f.method.cls]? = some k) (hl : k.loader = none) (hx : k.methods[f.method.idx]? = some x) (hrow : NativeRow.find? tb.natives k.name x.name x.desc = some row) (ha : f.answer = some o) : stepThread tb e s = afterNative e f rest ((row.resume f.stage f.saved o).run e s) := by
  unfold stepThread
  simp only [hf, hk, hx, hrow, ha, hl, Option.bind_eq_bind, Option.bind_some, Option.pure_def, Option.isNone_none, if_true]
variable {p : Program} {l : Launch} {e : Env} {R : Room} {s : State} {m : MethodId} {args : Array Value} {below : List Frame} {meth : Method} {c : Code} {H : Heap} {locs : List Loc} {cells slots : Nat} {Q : State → Prop}
variable {cc : ByteArray} {pc : Nat} {ls : Array Slot} {rest : List Value}
variable {D : va_G} {s0 : State} {cy : Nat → ClassId} {sad : Nat → Nat} {em : Nat} {a0 : Array Value} {ad : Nat → Nat} {ct : Nat → Option va_E}
theorem k_ceil (G : kG kSTR l D cy sad em s0 a0) (hx : p.tables.exec = Jvm.exec) (hb : c.code = cc) (hml : c.maxLocals = ls.size) {own : String} {index : Nat} (hown : s.vm.findClass own = some m.cls) (hq : ∀ w ∈ lw_tbl, kgood w = true → w.before args s = true) (hI : kI s0 s) (hS : va_S (kA s0) s.heap H locs) (hW : kW D s0.heap.size ad ct H) (hlink : (Cond.methodLink own index yJ9_ceil_294c1).before args s = true) {x : UInt64} {lo hi : Nat} (hd : dP lo hi x) (hh : hi < 2 ^ 36) (hframes : 5 ≤ R.frames) (hlocals : (rest.map fun v => v.category).sum + 1300 ≤ R.locals) (hcl : cells ≤ R.cells) (hsl : slots ≤ R.slots) (hdg : decode cc pc = .ok (.invokestatic index, 3))
    (kk : ∀ (H1 : Heap) (locs1 : List Loc), kW D s0.heap.size ad ct H1 → va_S (kA s0) s.heap H1 locs1 → W p l e R s m args below meth c H1 locs1 cells slots Q (F0 m (pc + 3) ls (.double (fNext x) :: rest))) : W p l e R s m args below meth c H locs cells slots Q (F0 m pc ls (.double x :: rest)) := by
  intro T hT X
  obtain ⟨vm', mM, kM, methM, X', hkM, hnM, hlM, hxM, hmM, hdM, st⟩ := nv_enter X hx hown hlink (hq _ q1235 rfl) (hq _ q69 rfl) (hq _ q1236 rfl) (by decide) (by decide) (nvCeil_row p) (As := [.double x]) (sig := { parameters := [.double], returnType := some .double }) (by decide +kernel) rfl rfl (g := F0 m pc ls (.double x :: rest)) rfl (by rw [hml]) rfl (by rw [hb]; exact hdg) (by omega) (by show 2 * 0 + _ + (2 + 11) ≤ _; omega)
  have hU : (T.setVm vm').heap = H := hT
  generalize T.setVm vm' = U at X' hkM hU st
  have hcodeU := kword (args := #[.double x]) X'.warmed rfl (hq _ q1239 rfl)
  obtain ⟨mS, hnS⟩ := Cond.code_named hcodeU
  obtain ⟨methS, cS, hmS, hcS, -, hlS, -, -, -, -⟩ := Cond.code_spec hnS hcodeU
  obtain ⟨kS, hkS, -⟩ := className_of_methodNamed hnS
  have hfS : U.vm.findClass "java/lang/StrictMath" = some mS.cls := findClass_of_methodNamed hnS
  have hiS : kS.init = .initialized := Cond.initialized_spec hfS hkS (kword (args := #[.double x]) X'.warmed rfl (hq _ q83 rfl))
  have hfm : kS.findMethod "ceil" "(D)D" = some mS.idx := by
    have h := hnS
    simp only [State.methodNamed?, Option.bind_eq_bind, Option.bind_eq_some_iff, Option.pure_def, Option.some.injEq] at h
    obtain ⟨c1, h1, k1, h2, i1, h3, h4⟩ := h
    cases h1.symm.trans hfS
    cases h2.symm.trans hkS
    rw [← h4]
    exact h3
  obtain ⟨g₀, hr⟩ := X'.frames_eq
  have hcur : U.cur < U.threads.size := State.cur_lt_of_frames hr
  obtain ⟨J, hJ⟩ : ∃ J : JFrame, J = { F0 m pc ls (.double x :: rest) with stack := rest } := ⟨_, rfl⟩
  obtain ⟨N1, hN1⟩ : ∃ N : NFrame, N = { method := mM, args := #[.double x], stage := 1, saved := #[], awaiting := true, answer := none, locked := none, words := 0 } := ⟨_, rfl⟩
  obtain ⟨acts, hrun⟩ := nvCeil_run x e (U.setFrames (.native { method := mM, args := [Value.double x].toArray, locked := none } :: .java { F0 m pc ls (.double x :: rest) with stack := rest } :: below)) (cS := mS.cls) (kS := kS) (i := mS.idx) hfS hkS hiS hfm
  have hafter : (afterNative e { method := mM, args := [Value.double x].toArray, locked := none } (.java { F0 m pc ls (.double x :: rest) with stack := rest } :: below) ((nvCeil.sem [Value.double x].toArray).run e (U.setFrames (.native { method := mM, args := [Value.double x].toArray, locked := none } :: .java { F0 m pc ls (.double x :: rest) with stack := rest } :: below)))).1 = (doInvoke e (U.setFrames (.native N1 :: .java J :: below)) acts mS #[.double x]).1 := by
    rw [show (nvCeil.sem [Value.double x].toArray).run e _ = _ from hrun]
    have hw0 : ((U.vm.classes[mM.cls]?).bind fun k => (k.methods[mM.idx]?).map fun n => upcallWords k.name n.name).getD 0 = 0 := by
      rw [hkM]
      simp only [Option.bind_some, hxM, Option.map_some, Option.getD_some]
      rw [hnM, hmM]
      rfl
    show (doInvoke e ((U.setFrames _).setFrames (.native { method := mM, args := [Value.double x].toArray, locked := none, stage := 1, saved := #[], awaiting := true, answer := none, words := ((U.vm.classes[mM.cls]?).bind fun k => (k.methods[mM.idx]?).map fun n => upcallWords k.name n.name).getD 0 } :: _)) acts ⟨mS.cls, mS.idx⟩ #[.double x]).1 = _
    rw [hw0, State.setFrames_setFrames, hN1, hJ]
  have eF : (U.setFrames (.native N1 :: .java J :: below)).pushFrame (.invoking mS #[.double x]) = U.setFrames (.invoking mS #[.double x] :: .native N1 :: .java J :: below) := by
    rw [State.pushFrame, State.frames_setFrames _ hcur, State.setFrames_setFrames]
  have hJm : J.monitorRoom = 0 := by rw [hJ]
  have hJs : J.stack = rest := by rw [hJ]
  have hroom : (U.calling J mS #[.double x]).hasRoom e.platform { frames := 3 + 1, locals := 160 + 1024, cells := 0, slots := 0 } = true :=
    X'.room_calling (g := J) (by rw [hJ]; exact hml.symm) hmS hcS (R' := { frames := 3 + 1, locals := 160 + 1024, cells := 0, slots := 0 }) (by show 3 + 1 + 1 ≤ R.frames; omega) (by rw [hlS, hJm, hJs]; show 2 * 0 + _ + (2 + 11) + (160 + 1024) ≤ R.locals; omega) (by show cells + 0 ≤ R.cells; omega) (by show slots + 0 ≤ R.slots; omega)
  rw [State.calling_eq X'.here.top, X'.tail] at hroom
  have hM : MetFree l yJxfc994_ceil_294c1 (headSpec [Cond.code yJxfc994_ceil_294c1 prog_26_method_16_code 2 (some .double)] (krm 3 160 0 0)) (kP [.double x] D s0 ad ct) (fun _ _ _ _ _ => True) (fun a st o t => kQ D s0 (fun v ad' ct' => v = some (.double (fNext x)) ∧ ad' = ad ∧ ct' = ct) a st o t ∧ ∃ L, FrameEnd st o t L 0 0 ∧ ∀ q ∈ L, kA s0 q.base) := m_ceil G (ad := ad) (ct := ct) hd hh
  have happ : (headSpec [Cond.code yJxfc994_ceil_294c1 prog_26_method_16_code 2 (some .double)] (krm 3 160 0 0)).appliesLoose yJxfc994_ceil_294c1 e.platform ((U.setFrames (.native N1 :: .java J :: below)).pushFrame (.invoking mS #[.double x])) = true := by
    rw [eF]
    refine (Spec.appliesLoose_iff (State.frames_setFrames _ hcur)).mpr ⟨X'.here.running, by simpa using X'.here.runnable, by simpa using X'.here.alone, hnS, rfl, State.classRipe_of (s := U.setFrames _) hkS hiS, nv_room (fr := 3) (lc := 160) (cn := 0) (sn := 0) hcur (by rw [hN1]; exact Nat.zero_le _) hroom, ?_⟩
    rw [Cond.before_setFrames]
    exact atoms_intro fun w hw => by
      rw [List.mem_singleton] at hw
      subst hw
      exact hcodeU
  have hIU : kI s0 U := hI.go hS hU X'.warmed
  have hP : kP [.double x] D s0 ad ct #[.double x] ((U.setFrames (.native N1 :: .java J :: below)).pushFrame (.invoking mS #[.double x])) := by
    rw [eF]
    exact ⟨rfl, hIU, by show kW D s0.heap.size ad ct U.heap; rw [hU]; exact hW⟩
  obtain ⟨o, s₂, hsteps, hrun2, hend, hkq, L, hfe, hL⟩ := Steps.callFree hM p X'.admits X'.cas X'.clock (s := U.setFrames (.native N1 :: .java J :: below)) (m := mS) (args := #[.double x]) (acts := acts) (mid := [.native N1, .java J]) (below := below) (State.frames_setFrames _ hcur) happ hP trivial
  obtain ⟨⟨v, ad', ct', rfl, ⟨rfl, rfl, rfl⟩, hw2⟩, hF⟩ := hkq
  rw [State.frames_setFrames _ hcur] at hend
  obtain ⟨N2, hN2⟩ : ∃ N : NFrame, N = { N1 with awaiting := false, answer := some (.returned (some (.double (fNext x)))) } := ⟨_, rfl⟩
  have hend2 : s₂.frames = .native N2 :: .java J :: below := by rw [hN2]; exact hend
  obtain ⟨⟨v9, hv9⟩, hW₂, e2, q2, q3, q4, q5, q6⟩ := id hfe
  have hW' : U.WarmedH s₂.vm := hW₂
  have hal := hW'.alike
  obtain ⟨k', hk', ek⟩ := hal.2.2 _ _ hkM
  have hcode2 : s₂.code? J.method = some c := by
    have h1 : s₂.code? J.method = U.code? J.method := by rw [State.code?_eq, State.code?_eq, hal.method?]
    rw [h1, hJ]
    exact X'.here.code
  have hdJ : decode c.code J.pc = .ok (.invokestatic index, 3) := by rw [hJ, hb]; exact hdg
  obtain ⟨acts3, hr3⟩ := nvCeil_back (r := fNext x) (vf_of (dP_next hd hh).nn) e s₂
  have hfs : handOver s₂ (some (.double (fNext x))) (.java J :: below) = some (.java { J with pc := J.pc + 3, stack := .double (fNext x) :: J.stack } :: below) := by
    simp [handOver, hcode2, hdJ, Except.toOption]
  have hstep : (stepThread p.tables e s₂).1 = s₂.setFrames (.java { J with pc := J.pc + 3, stack := .double (fNext x) :: J.stack } :: below) := by
    rw [nv_resumed (f := N2) (row := nvCeil) (o := .returned (some (.double (fNext x)))) hend2 (by rw [hN2, hN1]; exact hk') (by rw [ek]; exact hlM) (x := methM) (by rw [hN2, hN1, ek]; exact hxM) (by rw [show k'.name = kM.name by rw [ek], hnM, hmM, hdM]; exact nvCeil_row p) (by rw [hN2])]
    rw [show N2.stage = 1 by rw [hN2, hN1], show N2.saved = #[] by rw [hN2, hN1], hr3]
    exact doReturn_native hend2 (by rw [hN2, hN1]) hfs
  have e3 : s₂ = ({ U.setFrames s₂.frames with heap := s₂.heap, slotsUsed := s₂.slotsUsed } : State).setVm s₂.vm := by
    have h1 : s₂ = ({ s₂ with vm := ((U.setFrames (.native N1 :: .java J :: below)).pushFrame (.invoking mS #[.double x])).vm } : State).setVm s₂.vm := rfl
    rw [e2, eF, State.setFrames_setFrames] at h1
    exact h1
  have hs₂ : s₂.setFrames (.java { J with pc := J.pc + 3, stack := .double (fNext x) :: J.stack } :: below) = (({ U with heap := s₂.heap, slotsUsed := s₂.slotsUsed } : State).setVm s₂.vm).setTop (F0 m (pc + 3) ls (.double (fNext x) :: rest)) := by
    have hr' : (({ U with heap := s₂.heap, slotsUsed := s₂.slotsUsed } : State).setVm s₂.vm).frames = .java g₀ :: below := hr
    rw [State.setTop_of_frames _ hr', show ({ J with pc := J.pc + 3, stack := .double (fNext x) :: J.stack } : JFrame) = F0 m (pc + 3) ls (.double (fNext x) :: rest) by rw [hJ]]
    conv => lhs; rw [e3]
    have e4 : ∀ F G : List Frame, (({ U.setFrames F with heap := s₂.heap, slotsUsed := s₂.slotsUsed } : State).setVm s₂.vm).setFrames G = (({ U with heap := s₂.heap, slotsUsed := s₂.slotsUsed } : State).setVm s₂.vm).setFrames G := fun F G => by
      show ({ (U.setFrames F).setFrames G with heap := s₂.heap, slotsUsed := s₂.slotsUsed } : State).setVm s₂.vm = _
      rw [State.setFrames_setFrames]
      rfl
    exact e4 _ _
  have hsame : U.sameButNew ({ U with heap := s₂.heap, slotsUsed := s₂.slotsUsed } : State) L 0 0 := by
    refine ⟨?_, q2, q3, q4, q5, q6⟩
    obtain ⟨t, ht, -⟩ := State.frames_cons hr
    show ({ U with heap := s₂.heap, slotsUsed := s₂.slotsUsed } : State) = { U.setFrames U.frames with heap := s₂.heap, slotsUsed := s₂.slotsUsed }
    rw [State.setFrames_self ht]
  have X2 : Stand p l e R s m args below meth c (({ U with heap := s₂.heap, slotsUsed := s₂.slotsUsed } : State).setVm s₂.vm) (locs ++ L) (cells + 0) (slots + 0) :=
    ⟨X'.admits, X'.cas, X'.clock, X'.frames, X'.room, X'.hears, X'.method, X'.code, (X'.here.setHeapUsed s₂.heap s₂.slotsUsed).setVm hW'.alike, X'.tail, State.WarmedH.trans X'.warmed hW', X'.limits, X'.bytes, X'.same.trans (hsame.setVm s.vm)⟩
  have h0 : ((U.setFrames (.native N1 :: .java J :: below)).pushFrame (.invoking mS #[.double x])).heap = H := hU
  obtain ⟨k1, k2, k3⟩ := vx_keep (T' := (({ U with heap := s₂.heap, slotsUsed := s₂.slotsUsed } : State).setVm s₂.vm)) h0 rfl hS (fun q _ h => h) (fun q h => h) hL hF
  obtain ⟨t, a1, b1⟩ := kk s₂.heap (locs ++ L) hw2 k3 (({ U with heap := s₂.heap, slotsUsed := s₂.slotsUsed } : State).setVm s₂.vm) rfl X2
  refine ⟨t, st t ?_, b1⟩
  rw [hafter]
  refine hsteps.trans ?_
  refine Steps.head ⟨hrun2, ?_, ?_⟩ ⟨[.native N2, .java J], hend2, by simp, by simp⟩ ?_
  · have h1 : s₂.curStatus? = (({ U.setFrames s₂.frames with heap := s₂.heap, slotsUsed := s₂.slotsUsed } : State).setVm s₂.vm).curStatus? := by rw [← e3]
    rw [h1]
    show (U.setFrames _).curStatus? = _
    simpa using X'.here.runnable
  · have h1 : s₂.alone = (({ U.setFrames s₂.frames with heap := s₂.heap, slotsUsed := s₂.slotsUsed } : State).setVm s₂.vm).alone := by rw [← e3]
    rw [h1]
    show (U.setFrames _).alone = _
    simpa using X'.here.alone
  · rw [hstep, hs₂]
    exact a1
end NATF
