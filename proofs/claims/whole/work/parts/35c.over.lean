/-! array classes, in every later state -/
theorem kG.hAO {L : List (String × Nat × String)} {l : Launch} {D : va_G} {cy : Nat → ClassId} {sad : Nat → Nat} {em : Nat} {s0 : State} {a0 : Array Value} (G : kG L l D cy sad em s0 a0) {s : State} (hI : kI s0 s) {args : Array Value} {C : String} (h : Cond.arrayOver (.object C) ∈ lw_tbl) : (Cond.arrayOver (.object C)).before args s = true :=
  va_AO.use (va_AO.moved hI.1.alike (va_AO.of (G.1 _ h)))
