/-! MY KIT, 2: the start state s0, its words in every later state; contracts; calls; ends -/
section KITB
def kgood : Cond → Bool
  | .fieldLinkNest .. => true
  | .methodLinkNest .. => true
  | .castable .. => true
  | .declares .. => true
  | w => goodWord w
def kI (s0 U : State) : Prop := s0.WarmedH U.vm ∧ s0.heap.size ≤ U.heap.size ∧ ∀ q : Nat, q < s0.heap.size → U.heap[q]? = s0.heap[q]?
abbrev kA (s0 : State) : Nat → Prop := fun q => s0.heap.size ≤ q
theorem kI.go {s0 s U : State} {H : Heap} {locs : List Loc} (h : kI s0 s) (hS : va_S (kA s0) s.heap H locs) (hU : U.heap = H) (hW : s.WarmedH U.vm) : kI s0 U := by
  refine ⟨State.WarmedH.trans h.1 hW, ?_, fun q hq => ?_⟩
  · rw [hU]; exact Nat.le_trans h.2.1 hS.1
  · rw [hU, hS.2.1 q (Nat.lt_of_lt_of_le hq h.2.1) (Nat.not_le.mpr hq)]
    exact h.2.2 q hq
theorem kword {s0 s : State} {a0 args : Array Value} {w : Cond} (hW : s0.WarmedH s.vm) (hg : kgood w = true) (h : w.before a0 s0 = true) : w.before args s = true := by
  have gen : goodWord w = true → w.before args s = true := fun hg => word_at hW (good_of_word hg) h
  cases w with
  | fieldLinkNest a i b n d x => exact va_Nw.use rfl (va_Nw.warmF hW (va_Nw.of rfl h))
  | methodLinkNest a i y x => exact va_Nw.use rfl (va_Nw.warmM hW (va_Nw.of rfl h))
  | castable C T => exact va_Nw.use rfl (va_Nw.warmC hW (va_Nw.of rfl h))
  | declares x => exact va_Nw.use rfl (va_Nw.warmD hW (va_Nw.of rfl h))
  | _ => exact gen hg
def gT : List Cond := lw_tbl.filter goodWord
theorem gT_in {w : Cond} (h : w ∈ lw_tbl) (hg : goodWord w = true) : w ∈ gT := List.mem_filter.mpr ⟨h, hg⟩
theorem gT_of {w : Cond} (h : w ∈ gT) : w ∈ lw_tbl ∧ goodWord w = true := List.mem_filter.mp h
theorem gT_good {ws : List Cond} (h : ∀ w ∈ ws, w ∈ gT) : GoodIn gT ws := fun w hw => ⟨h w hw, good_of_word (gT_of (h w hw)).2⟩
/-- the array classes by number -/
def kty : List FieldType := [.double, .int, .float, .long, .object RX0, .object RX3, .object RX5, .object RX1, .object RX2, .object RX4, .object "java/lang/Object"]
def ktys (cy : Nat → ClassId) : List (ClassId × FieldType) := [(cy 0, .double), (cy 1, .int), (cy 2, .float), (cy 3, .long), (cy 4, .object RX0), (cy 5, .object RX3), (cy 6, .object RX5), (cy 7, .object RX1), (cy 8, .object RX2), (cy 9, .object RX4), (cy 10, .object "java/lang/Object")]
/-- the texts of the exceptions: class, place, text -/
abbrev kstrs (sad : Nat → Nat) (L : List (String × Nat × String)) (U : State) : Prop := ∀ (i : Nat) (q : String × Nat × String), L[i]? = some q → vk_R q.1 q.2.1 q.2.2 (sad i) U
/-- the empty list's array: it may be no new cell's like (its monitor isn't told) -/
def kEm (em : Nat) (s0 : State) : Prop := ∃ cell : Cell, s0.heap[em]? = some cell ∧ s0.isArrayOf cell (.object "java/lang/Object") ∧ cell.slots.size.toInt32 = 0
/-- what holds at the law's start, for good -/
def kG (L : List (String × Nat × String)) (l : Launch) (D : va_G) (cy : Nat → ClassId) (sad : Nat → Nat) (em : Nat) (s0 : State) (a0 : Array Value) : Prop :=
  (∀ w ∈ lw_tbl, w.before a0 s0 = true) ∧ l.stackTraces = false ∧ va_K D vwCl (ktys cy) s0 ∧ vx_Zq Bundle.tN "UNASSIGNED_STACK" Bundle.steD (kA s0) s0 s0.heap ∧ vx_Zq Bundle.tN "SUPPRESSED_SENTINEL" Bundle.listD (kA s0) s0 s0.heap ∧ kstrs sad L s0 ∧ va_Z "java/util/ArrayList" "DEFAULTCAPACITY_EMPTY_ELEMENTDATA" "[Ljava/lang/Object;" (.ref em) (kA s0) s0 s0.heap ∧ va_Z "java/lang/Math" "negativeZeroDoubleBits" "J" (.long (-9223372036854775808)) (kA s0) s0 s0.heap ∧ va_Z "java/lang/StrictMath" "$assertionsDisabled" "Z" (.int 1) (kA s0) s0 s0.heap ∧ kEm em s0
variable {L : List (String × Nat × String)} {l : Launch} {D : va_G} {cy : Nat → ClassId} {sad : Nat → Nat} {em : Nat} {s0 : State} {a0 : Array Value}
theorem kG.hts (G : kG L l D cy sad em s0 a0) {s : State} (hI : kI s0 s) (args : Array Value) : ∀ w ∈ gT, w.before args s = true := fun w hw => kword hI.1 (by
  have hg := (gT_of hw).2
  cases w <;> first | rfl | exact hg) (G.1 w (gT_of hw).1)
theorem kG.hq (G : kG L l D cy sad em s0 a0) {s : State} (hI : kI s0 s) (args : Array Value) : ∀ w ∈ lw_tbl, kgood w = true → w.before args s = true := fun w hw hg => kword hI.1 hg (G.1 w hw)
theorem kG.hK (G : kG L l D cy sad em s0 a0) {s : State} (hI : kI s0 s) : va_K D vwCl (ktys cy) s := va_K.moved hI.1.alike G.2.2.1
theorem kG.hU (G : kG L l D cy sad em s0 a0) {s : State} (hI : kI s0 s) : vx_Zq Bundle.tN "UNASSIGNED_STACK" Bundle.steD (kA s0) s s.heap := (vx_Zq.moved hI.1.alike G.2.2.2.1).kept (fun a ha _ => hI.2.2 a ha)
theorem kG.hN (G : kG L l D cy sad em s0 a0) {s : State} (hI : kI s0 s) : vx_Zq Bundle.tN "SUPPRESSED_SENTINEL" Bundle.listD (kA s0) s s.heap := (vx_Zq.moved hI.1.alike G.2.2.2.2.1).kept (fun a ha _ => hI.2.2 a ha)
theorem kG.hR (G : kG L l D cy sad em s0 a0) {s : State} (hI : kI s0 s) (i : Nat) {own tx : String} {k : Nat} (h : L[i]? = some (own, k, tx)) : vk_R own k tx (sad i) s := vk_R.warm hI.1 (G.2.2.2.2.2.1 i _ h)
/-- a method's start, its end, its throw -/
def kP (As : List Value) (D : va_G) (s0 : State) (ad : Nat → Nat) (ct : Nat → Option va_E) : Array Value → State → Prop := fun v U => v = As.toArray ∧ kI s0 U ∧ kW D s0.heap.size ad ct U.heap
abbrev kPT : Type := Option Value → (Nat → Nat) → (Nat → Option va_E) → Prop
def kQ (D : va_G) (s0 : State) (Post : kPT) : Array Value → State → Outcome → State → Prop := fun _ st oc t => (∃ (v : Option Value) (ad' : Nat → Nat) (ct' : Nat → Option va_E), oc = .returned v ∧ Post v ad' ct' ∧ kW D s0.heap.size ad' ct' t.heap) ∧ va_F (kA s0) st t
def kXC (D : va_G) (s0 : State) (ad : Nat → Nat) (ct : Nat → Option va_E) (PX : String → Prop) : String → State → State → Prop := fun E st t => PX E ∧ kW D s0.heap.size ad ct t.heap ∧ va_F (kA s0) st t
abbrev krm (fr lc mc ms : Nat) : Room := { frames := fr, cells := mc, slots := ms, locals := lc }
/-- a contract of a method that throws nothing -/
def KM (l : Launch) (y : MethodName) (ws : List Cond) (fr lc mc ms : Nat) (As : List Value) (D : va_G) (s0 : State) (ad : Nat → Nat) (ct : Nat → Option va_E) (Post : kPT) : Prop := Met l y ws (krm fr lc mc ms) (kP As D s0 ad ct) (kQ D s0 Post) mc ms (kA s0)
/-- a contract of a method that returns, or throws and leaves the world as it was -/
def KX (l : Launch) (y : MethodName) (ws : List Cond) (fr lc mc ms : Nat) (As : List Value) (D : va_G) (s0 : State) (ad : Nat → Nat) (ct : Nat → Option va_E) (Post : kPT) (PX : String → Prop) : Prop := vx_Met l y ws (krm fr lc mc ms) (kP As D s0 ad ct) (kQ D s0 Post) (kXC D s0 ad ct PX) mc ms (kA s0)
theorem kP_blind {As : List Value} {ad : Nat → Nat} {ct : Nat → Option va_E} : FrameBlind (kP As D s0 ad ct) := fun _ _ _ _ q => q
theorem kent {vs : List Value} {n : Nat} (h : (lg_sl vs).length ≤ n) (h2 : (kargs vs).length ≤ n) : lvP ((lg_sl vs ++ List.replicate (n - (lg_sl vs).length) Slot.unset).toArray) n (kargs vs ++ List.replicate (n - (kargs vs).length) none) := by
  have hh := lv_entry vs (n := n) h
  refine ⟨hh.1, hh.2.1, by rw [List.length_append, List.length_replicate]; omega, fun i v e => ?_⟩
  have e2 : (kargs vs)[i]? = some (some v) := by
    by_cases hi : i < (kargs vs).length
    · rwa [List.getElem?_append_left hi] at e
    · rw [List.getElem?_append_right (by omega), List.getElem?_replicate] at e
      split at e <;> simp at e
  have := kargs_in vs 0 i v e2
  rw [Nat.zero_add] at this
  exact hh.2.2 (i, v) this
/-- what a walk has at hand -/
def kH (L : List (String × Nat × String)) (l : Launch) (D : va_G) (cy : Nat → ClassId) (sad : Nat → Nat) (em : Nat) (s0 : State) (a0 : Array Value) (p : Program) (s : State) (m : MethodId) (args : Array Value) (meth : Method) (c : Code) (cc : ByteArray) (maxL : Nat) (own : String) (ret : Option FieldType) : Prop :=
  p.tables.exec = Jvm.exec ∧ c.code = cc ∧ meth.sig.returnType = ret ∧ c.maxLocals = maxL ∧ s.vm.findClass own = some m.cls ∧ meth.locks = false ∧ (∀ w ∈ gT, w.before args s = true) ∧ (∀ w ∈ lw_tbl, kgood w = true → w.before args s = true) ∧ va_K D vwCl (ktys cy) s ∧ kI s0 s
theorem KM.of {y : MethodName} {cc : ByteArray} {maxL : Nat} {ret : Option FieldType} {fr lc mc ms : Nat} {As : List Value} {ad : Nat → Nat} {ct : Nat → Option va_E} {Post : kPT} (G : kG L l D cy sad em s0 a0) (hy : plainName y.cls = true) (h1 : (lg_sl As).length ≤ maxL) (h2 : (kargs As).length ≤ maxL)
    (body : ∀ (p : Program) (e : Env) (s : State) (m : MethodId) (args : Array Value) (below : List Frame) (meth : Method) (c : Code) (ls : Array Slot) (Q : State → Prop), Q = MQ below (kQ D s0 Post) args s mc ms (kA s0) → kH L l D cy sad em s0 a0 p s m args meth c cc maxL y.cls ret → (y.name = "<init>" → meth.name = "<init>") → lvP ls maxL (kargs As ++ List.replicate (maxL - (kargs As).length) none) → kW D s0.heap.size ad ct s.heap → va_S (kA s0) s.heap s.heap [] →
      W p l e (krm fr lc mc ms) s m args below meth c s.heap [] 0 0 Q (F0 m 0 ls [])) : KM l y [.code y cc maxL ret] fr lc mc ms As D s0 ad ct Post := by
  refine Met.ofW (cc := cc) (maxL := maxL) (ret := ret) hy rfl ?_
  intro p e s m args below meth c s₁ B hml hv
  obtain ⟨ha, hI, hW⟩ := hv
  rw [show entryFrame m args maxL = _ from (congrArg (fun z => entryFrame m z maxL) ha).trans (lg_entry_eq m As maxL)]
  exact body p e s m args below meth c _ _ rfl ⟨B.exec, B.bytes, B.returns, hml, findClass_of_methodNamed B.named, B.notSynchronized, G.hts hI _, G.hq hI _, G.hK hI, hI⟩ (fun hn => (name_of_methodNamed B.named B.method).1.trans hn) (kent h1 h2) hW va_S.rf
theorem KX.of {y : MethodName} {cc : ByteArray} {maxL : Nat} {ret : Option FieldType} {fr lc mc ms : Nat} {As : List Value} {ad : Nat → Nat} {ct : Nat → Option va_E} {Post : kPT} {PX : String → Prop} (G : kG L l D cy sad em s0 a0) (hy : plainName y.cls = true) (h1 : (lg_sl As).length ≤ maxL) (h2 : (kargs As).length ≤ maxL)
    (body : ∀ (p : Program) (e : Env) (s : State) (m : MethodId) (args : Array Value) (below : List Frame) (meth : Method) (c : Code) (ls : Array Slot) (Q : State → Prop), Q = vx_MQ below (kQ D s0 Post) (kXC D s0 ad ct PX) args s mc ms (kA s0) → kH L l D cy sad em s0 a0 p s m args meth c cc maxL y.cls ret → (∀ x ∈ c.exceptionTable.toList, False) → lvP ls maxL (kargs As ++ List.replicate (maxL - (kargs As).length) none) → kW D s0.heap.size ad ct s.heap → va_S (kA s0) s.heap s.heap [] →
      W p l e (krm fr lc mc ms) s m args below meth c s.heap [] 0 0 Q (F0 m 0 ls [])) : KX l y [.code y cc maxL ret] fr lc mc ms As D s0 ad ct Post PX := by
  refine vx_ofW (cc := cc) (maxL := maxL) (ret := ret) hy rfl ?_
  intro p e s m args below meth c s₁ B hml hnt hv
  obtain ⟨ha, hI, hW⟩ := hv
  rw [show entryFrame m args maxL = _ from (congrArg (fun z => entryFrame m z maxL) ha).trans (lg_entry_eq m As maxL)]
  exact body p e s m args below meth c _ _ rfl ⟨B.exec, B.bytes, B.returns, hml, findClass_of_methodNamed B.named, B.notSynchronized, G.hts hI _, G.hq hI _, G.hK hI, hI⟩ hnt (kent h1 h2) hW va_S.rf
end KITB
