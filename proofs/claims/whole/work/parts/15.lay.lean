/-! lays, as numbers -/
theorem lvP_less {ls : Array Slot} {n : Nat} {l l' : List (Option Value)} (h : lvP ls n l) (hl : l'.length = l.length) (hs : ∀ (i : Nat) (v : Value), l'[i]? = some (some v) → l[i]? = some (some v)) : lvP ls n l' := h.drop l' hl hs
def kle : List (Option Value) → List (Option Value) → Prop
  | [], [] => True
  | a :: as, b :: bs => (a = none ∨ a = b) ∧ kle as bs
  | _, _ => False
theorem kle_nil : kle [] [] := trivial
theorem kle_same {a : Option Value} {as bs : List (Option Value)} (h : kle as bs) : kle (a :: as) (a :: bs) := ⟨Or.inr rfl, h⟩
theorem kle_drop {b : Option Value} {as bs : List (Option Value)} (h : kle as bs) : kle (none :: as) (b :: bs) := ⟨Or.inl rfl, h⟩
theorem kle_len : ∀ {l' l : List (Option Value)}, kle l' l → l'.length = l.length
  | [], [], _ => rfl
  | _ :: _, _ :: _, h => by rw [List.length_cons, List.length_cons, kle_len h.2]
  | [], _ :: _, h => h.elim
  | _ :: _, [], h => h.elim
theorem kle_in : ∀ {l' l : List (Option Value)}, kle l' l → ∀ (i : Nat) (v : Value), l'[i]? = some (some v) → l[i]? = some (some v)
  | [], [], _, i, v, e => by simp at e
  | a :: as, b :: bs, h, 0, v, e => by
    rw [List.getElem?_cons_zero] at e ⊢
    cases e
    rcases h.1 with q | q
    · cases q
    · rw [← q]
  | _ :: _, _ :: _, h, i + 1, v, e => by
    rw [List.getElem?_cons_succ] at e ⊢
    exact kle_in h.2 i v e
  | [], _ :: _, h, _, _, _ => h.elim
  | _ :: _, [], h, _, _, _ => h.elim
theorem lvP.le {ls : Array Slot} {n : Nat} {l l' : List (Option Value)} (h : lvP ls n l) (hk : kle l' l) : lvP ls n l' := h.drop l' (kle_len hk) (kle_in hk)
/-- nothing but the table's cells changed -/
def kOut (ct ct' : Nat → Option va_E) : Prop := ∀ k, k < 7 ∨ 11 < k → ct' k = ct k
theorem kOut.rf {ct : Nat → Option va_E} : kOut ct ct := fun _ _ => rfl
theorem kOut.up {ct c1 : Nat → Option va_E} {j : Nat} {e : va_E} (h : kOut ct c1) (h1 : 7 ≤ j) (h2 : j ≤ 11) : kOut ct (up c1 j e) := fun k hk => (up_n (by omega)).trans (h k hk)
theorem kOut.tr {c0 c1 c2 : Nat → Option va_E} (h : kOut c0 c1) (h2 : kOut c1 c2) : kOut c0 c2 := fun k hk => (h2 k hk).trans (h k hk)
abbrev dGe (x y : UInt64) : Prop := ¬ (FP.dcmp x y = some .lt ∨ FP.dcmp x y = none)
abbrev fAhead (w t w0 t0 : UInt64) : Prop := FP.dcmp t t0 = some .gt ∨ (FP.dcmp t t0 = some .eq ∧ FP.dcmp w w0 = some .gt)
def kIns (w t : UInt64) : Nat → (Nat → UInt64) → (Nat → UInt64) → (Nat → UInt64) × (Nat → UInt64)
  | 0, fw, fl => (vf_upd fw 0 w, vf_upd fl 0 t)
  | a + 1, fw, fl => if fAhead w t (fw a) (fl a) then kIns w t a (vf_upd fw (a + 1) (fw a)) (vf_upd fl (a + 1) (fl a)) else (vf_upd fw (a + 1) w, vf_upd fl (a + 1) t)
def fFirst (P : Nat → Bool) : Nat → Nat → Nat
  | 0, i => i
  | d + 1, i => if P i then i else fFirst P d (i + 1)
/-- rows, turned, needs, heights, rooms -/
abbrev tLs : Type := Nat × Nat × UInt64 × (Nat → UInt64) × (Nat → UInt64)
def fRow (fh fr : Nat → UInt64) (room height : UInt64) (i : Nat) : Bool := decide (dGe (fr i) room) && decide (dGe (fh i) height)
def fInto (st : tLs) (room height : UInt64) : Option tLs :=
  if fFirst (fRow st.2.2.2.1 st.2.2.2.2 room height) st.1 0 < st.1 then some (st.1, st.2.1, st.2.2.1, st.2.2.2.1, vf_upd st.2.2.2.2 (fFirst (fRow st.2.2.2.1 st.2.2.2.2 room height) st.1 0) (FP.dsub (st.2.2.2.2 (fFirst (fRow st.2.2.2.1 st.2.2.2.2 room height) st.1 0)) room)) else none
def fRaise (stripe : Nat) (h : UInt64) : UInt64 := if 0 < stripe then FP.dmul (fNext (FP.ddiv h (FP.i2d (nI stripe)))) (FP.i2d (nI stripe)) else h
def fNew (width : UInt64) (stripe : Nat) (st : tLs) (room height : UInt64) : Option tLs :=
  if FP.dcmp room width = some .gt then none else some (st.1 + 1, st.2.1, FP.dadd st.2.2.1 (fRaise stripe height), vf_upd st.2.2.2.1 st.1 (fRaise stripe height), vf_upd st.2.2.2.2 st.1 (FP.dsub width room))
def fTurn (st : tLs) : tLs := (st.1, st.2.1 + 1, st.2.2)
def fPutN (width : UInt64) (stripe : Nat) (turns : Bool) (st : tLs) (w t : UInt64) : Option tLs :=
  match fNew width stripe st w t with
  | some s => some s
  | none => if turns then (fNew width stripe st t w).map fTurn else none
def fPut (width : UInt64) (stripe : Nat) (turns : Bool) (st : tLs) (w t : UInt64) : Option tLs :=
  match fInto st w t with
  | some s => some s
  | none => if turns then (match fInto st t w with | some s => some (fTurn s) | none => fPutN width stripe turns st w t) else fPutN width stripe turns st w t
/-- no NaN comes up where one is laid -/
def okInto (st : tLs) (room : UInt64) : Prop := ∀ i, i < st.1 → vf_n64 (FP.dsub (st.2.2.2.2 i) room)
def okNew (width : UInt64) (stripe : Nat) (st : tLs) (room height : UInt64) : Prop :=
  (0 < stripe → vf_n64 (FP.ddiv height (FP.i2d (nI stripe))) ∧ vf_n64 (FP.dmul (fNext (FP.ddiv height (FP.i2d (nI stripe)))) (FP.i2d (nI stripe)))) ∧ vf_n64 (FP.dsub width room) ∧ vf_n64 (FP.dadd st.2.2.1 (fRaise stripe height))
theorem fFirst_le (P : Nat → Bool) : ∀ d i, i ≤ fFirst P d i ∧ fFirst P d i ≤ i + d
  | 0, i => ⟨Nat.le_refl _, Nat.le_refl _⟩
  | d + 1, i => by
    unfold fFirst
    split
    · exact ⟨Nat.le_refl _, by omega⟩
    · have := fFirst_le P d (i + 1)
      exact ⟨by omega, by omega⟩
theorem fFirst_at (P : Nat → Bool) {d i : Nat} (h : P i = true) : fFirst P (d + 1) i = i := if_pos h
theorem fFirst_go (P : Nat → Bool) {d i : Nat} (h : ¬ P i = true) : fFirst P (d + 1) i = fFirst P d (i + 1) := if_neg h
def RepL (cy : Nat → ClassId) (ad : Nat → Nat) (ct : Nat → Option va_E) (n : Nat) (cov wd : UInt64) (sp : Nat) (fl fw : Nat → UInt64) (s : tLs) : Prop := RepT cy ad ct (n, s.1, s.2.1, s.2.2.1, cov, wd, sp) fl fw s.2.2.2.1 s.2.2.2.2
/-- what a try to put one answers -/
def kOpt (cy : Nat → ClassId) (ad : Nat → Nat) (ct : Nat → Option va_E) (n : Nat) (cov wd : UInt64) (sp : Nat) (fl fw : Nat → UInt64) (s : tLs) (o : Option tLs) (v : Option Value) : Prop :=
  (∃ s', o = some s' ∧ v = some (.int 1) ∧ RepL cy ad ct n cov wd sp fl fw s') ∨ (o = none ∧ v = some (.int 0) ∧ RepL cy ad ct n cov wd sp fl fw s)
theorem fRow_t {fh fr : Nat → UInt64} {room height : UInt64} {i : Nat} (h1 : dGe (fr i) room) (h2 : dGe (fh i) height) : fRow fh fr room height i = true := by
  unfold fRow
  rw [decide_eq_true h1, decide_eq_true h2]
  rfl
theorem fRow_f {fh fr : Nat → UInt64} {room height : UInt64} {i : Nat} (h : ¬ dGe (fr i) room ∨ ¬ dGe (fh i) height) : ¬ fRow fh fr room height i = true := by
  unfold fRow
  rcases h with h | h
  · rw [decide_eq_false h, Bool.false_and]
    decide
  · rw [decide_eq_false h, Bool.and_false]
    decide
theorem fInto_some {s : tLs} {room height : UInt64} {i d : Nat} (hi : i < s.1) (hd : s.1 - i = d + 1) (hf : fFirst (fRow s.2.2.2.1 s.2.2.2.2 room height) (s.1 - i) i = fFirst (fRow s.2.2.2.1 s.2.2.2.2 room height) s.1 0) (hp : fRow s.2.2.2.1 s.2.2.2.2 room height i = true) : fInto s room height = some (s.1, s.2.1, s.2.2.1, s.2.2.2.1, vf_upd s.2.2.2.2 i (FP.dsub (s.2.2.2.2 i) room)) := by
  rw [hd, fFirst_at _ hp] at hf
  unfold fInto
  rw [← hf, if_pos hi]
theorem fInto_none {s : tLs} {room height : UInt64} (hf : s.1 = fFirst (fRow s.2.2.2.1 s.2.2.2.2 room height) s.1 0) : fInto s room height = none := by
  unfold fInto
  rw [← hf, if_neg (Nat.lt_irrefl _)]
/-- what is gathered: how many, their widths and lengths -/
abbrev tGs : Type := Nat × (Nat → UInt64) × (Nat → UInt64)
def gOne (w t : UInt64) : Nat → tGs → tGs
  | 0, g => g
  | k + 1, g => gOne w t k (g.1 + 1, (kIns w t g.1 g.2.1 g.2.2).1, (kIns w t g.1 g.2.1 g.2.2).2)
def fWide (ms : Nat → Nat) (left : UInt64) (pc : tPc) : UInt64 := FP.ddiv (FP.dadd (fBody ms pc) cD3) left
def fLong (ms : Nat → Nat) (left : UInt64) (pc : tPc) : UInt64 := FP.ddiv (FP.dadd (fTall ms pc) cD3) left
def gOrd (ms : Nat → Nat) (left : UInt64) (ps : Nat → tPc) : Nat → Nat → tGs → tGs
  | 0, _, g => g
  | d + 1, i, g => gOrd ms left ps d (i + 1) (gOne (fWide ms left (ps i)) (fLong ms left (ps i)) (ps i).2.2.2 g)
def okGath (ms : Nat → Nat) (left : UInt64) (pc : tPc) : Prop := vf_n64 (FP.dadd (fBody ms pc) cD3) ∧ vf_n64 (FP.dadd (fTall ms pc) cD3) ∧ vf_n64 (FP.ddiv (FP.dadd (fBody ms pc) cD3) left) ∧ vf_n64 (FP.ddiv (FP.dadd (fTall ms pc) cD3) left)
def fLay (wd : UInt64) (sp : Nat) (turns : Bool) (fw fl : Nat → UInt64) : Nat → Nat → UInt64 → tLs → Option (UInt64 × tLs)
  | 0, _, cov, s => some (cov, s)
  | d + 1, i, cov, s => match fPut wd sp turns s (fw i) (fl i) with
    | some s' => fLay wd sp turns fw fl d (i + 1) (FP.dadd cov (FP.dmul (fw i) (fl i))) s'
    | none => none
def okPut (wd : UInt64) (sp : Nat) (s : tLs) (w t : UInt64) : Prop := s.1 < 40 ∧ okInto s w ∧ okInto s t ∧ okNew wd sp s w t ∧ okNew wd sp s t w
def okRun (wd : UInt64) (sp : Nat) (turns : Bool) (fw fl : Nat → UInt64) : Nat → Nat → UInt64 → tLs → Prop
  | 0, _, _, _ => True
  | d + 1, i, cov, s => okPut wd sp s (fw i) (fl i) ∧ vf_n64 (FP.dmul (fw i) (fl i)) ∧ vf_n64 (FP.dadd cov (FP.dmul (fw i) (fl i))) ∧ ∀ s', fPut wd sp turns s (fw i) (fl i) = some s' → okRun wd sp turns fw fl d (i + 1) (FP.dadd cov (FP.dmul (fw i) (fl i))) s'
