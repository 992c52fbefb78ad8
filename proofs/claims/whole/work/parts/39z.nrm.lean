/-! locals, written out -/
theorem lvP.nrm {ls : Array Slot} {n : Nat} {l l' : List (Option Value)} (h : lvP ls n l) (e : l = l') : lvP ls n l' := e ▸ h
