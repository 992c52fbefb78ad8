/-! Math.max, Math.min of doubles, Math.ceil (rows) -/
section KITM
variable {p : Program} {l : Launch} {e : Env} {R : Room} {s : State} {m : MethodId} {args : Array Value} {below : List Frame} {meth : Method} {c : Code} {H : Heap} {locs : List Loc} {cells slots : Nat} {Q : State → Prop}
variable {cc : ByteArray} {pc : Nat} {ls : Array Slot} {rest : List Value}
variable {D : va_G} {s0 : State} {cy : Nat → ClassId} {sad : Nat → Nat} {em : Nat} {a0 : Array Value}
/-- the greater, or the smaller; at equals the one that isn't -0.0 (or is) -/
def fMx (b : Bool) (x y : UInt64) : UInt64 := match FP.dcmp x y with
  | some .lt => if b then y else x
  | some .gt => if b then x else y
  | _ => if (x >>> 63 == 1) == b then y else x
theorem k_maxD (G : kG kSTR l D cy sad em s0 a0) (hx : p.tables.exec = Jvm.exec) (hb : c.code = cc) (hml : c.maxLocals = ls.size) {own : String} {index : Nat} (hown : s.vm.findClass own = some m.cls) (hq : ∀ w ∈ lw_tbl, kgood w = true → w.before args s = true) (hI : kI s0 s) (hlink : (Cond.methodLink own index yJ9_max_eb370).before args s = true) {x y : UInt64} (hn : vf_n64 x ∧ vf_n64 y) (hframes : 1 ≤ R.frames) (hlocals : (rest.map fun v => v.category).sum + 19 ≤ R.locals) (hdg : decode cc pc = .ok (.invokestatic index, 3))
    (kk : W p l e R s m args below meth c H locs cells slots Q (F0 m (pc + 3) ls (.double (fMx true x y) :: rest))) : W p l e R s m args below meth c H locs cells slots Q (F0 m pc ls (.double y :: .double x :: rest)) := sorry
theorem k_minD (G : kG kSTR l D cy sad em s0 a0) (hx : p.tables.exec = Jvm.exec) (hb : c.code = cc) (hml : c.maxLocals = ls.size) {own : String} {index : Nat} (hown : s.vm.findClass own = some m.cls) (hq : ∀ w ∈ lw_tbl, kgood w = true → w.before args s = true) (hI : kI s0 s) (hlink : (Cond.methodLink own index yJ9_min_eb370).before args s = true) {x y : UInt64} (hn : vf_n64 x ∧ vf_n64 y) (hframes : 1 ≤ R.frames) (hlocals : (rest.map fun v => v.category).sum + 19 ≤ R.locals) (hdg : decode cc pc = .ok (.invokestatic index, 3))
    (kk : W p l e R s m args below meth c H locs cells slots Q (F0 m (pc + 3) ls (.double (fMx false x y) :: rest))) : W p l e R s m args below meth c H locs cells slots Q (F0 m pc ls (.double y :: .double x :: rest)) := sorry
theorem k_ceil (G : kG kSTR l D cy sad em s0 a0) (hx : p.tables.exec = Jvm.exec) (hb : c.code = cc) (hml : c.maxLocals = ls.size) {own : String} {index : Nat} (hown : s.vm.findClass own = some m.cls) (hts : ∀ w ∈ gT, w.before args s = true) (hq : ∀ w ∈ lw_tbl, kgood w = true → w.before args s = true) (hI : kI s0 s) (hS : va_S (kA s0) s.heap H locs) (hlink : (Cond.methodLink own index yJ9_ceil_294c1).before args s = true) {x : UInt64} {lo hi : Nat} (hd : dP lo hi x) (hh : hi < 2 ^ 36) (hframes : 5 ≤ R.frames) (hlocals : (rest.map fun v => v.category).sum + 1300 ≤ R.locals) (hdg : decode cc pc = .ok (.invokestatic index, 3))
    (kk : W p l e R s m args below meth c H locs cells slots Q (F0 m (pc + 3) ls (.double (fNext x) :: rest))) : W p l e R s m args below meth c H locs cells slots Q (F0 m pc ls (.double x :: rest)) := sorry
end KITM
