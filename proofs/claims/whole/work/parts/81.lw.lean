/-! the law's cases: what one call of each side owes -/
section KITW
theorem KM.mono {l : Launch} {y : MethodName} {ws : List Cond} {fr lc mc ms : Nat} {As : List Value} {D : va_G} {s0 : State} {ad : Nat → Nat} {ct : Nat → Option va_E} {Post Post' : kPT} (h : KM l y ws fr lc mc ms As D s0 ad ct Post) (hp : ∀ v ad' ct', Post v ad' ct' → Post' v ad' ct') : KM l y ws fr lc mc ms As D s0 ad ct Post' := by
  unfold KM Met MetFree at h ⊢
  intro p e ha hc hk s m args below hf happ hP hK
  obtain ⟨n, o, h1, h2, h3, ⟨⟨v, ad', ct', e1, e2, e3⟩, e4⟩, h5⟩ := h p e ha hc hk s m args below hf happ hP hK
  exact ⟨n, o, h1, h2, h3, ⟨⟨v, ad', ct', e1, hp v ad' ct' e2, e3⟩, e4⟩, h5⟩
/-- the law's own five addresses are as they were -/
def kSm (ad ad' : Nat → Nat) : Prop := ad' 0 = ad 0 ∧ ad' 1 = ad 1 ∧ ad' 100 = ad 100 ∧ ad' 90 = ad 90 ∧ ad' 91 = ad 91
theorem kSm.rf {ad : Nat → Nat} : kSm ad ad := ⟨rfl, rfl, rfl, rfl, rfl⟩
theorem kSm.of {ad ad' : Nat → Nat} (h : ∀ j, (j = 0 ∨ j = 1 ∨ 80 ≤ j) → ad' j = ad j) : kSm ad ad' := ⟨h 0 (by omega), h 1 (by omega), h 100 (by omega), h 90 (by omega), h 91 (by omega)⟩
/-- the law's own two arrays -/
def kOu (cy : Nat → ClassId) (ct : Nat → Option va_E) (fo : Nat → Int64) (fd : Nat → UInt64) : Prop := ct 90 = some (.inl (cy 3, 1, aL fo)) ∧ ct 91 = some (.inl (cy 0, 1, aD fd))
/-- the class's wrapper, for ints and for doubles; the class alone has the new state -/
def oCi (cy : Nat → ClassId) (ad : Nat → Nat) (M : tM) (sp : Int32 → Int32 → tM → Prop) : kPT := fun v ad' ct' => ∃ (kc a : Int32) (MC : tM) (fo : Nat → Int64) (fd : Nat → UInt64), v = some (.int kc) ∧ lC cy ad' ct' MC ∧ lR cy ad' ct' M ∧ kSm ad ad' ∧ kOu cy ct' fo fd ∧ (kc = 0 → fo 0 = a.toInt64) ∧ sp kc a MC
def oCd (cy : Nat → ClassId) (ad : Nat → Nat) (M : tM) (sp : Int32 → UInt64 → tM → Prop) : kPT := fun v ad' ct' => ∃ (kc : Int32) (a : UInt64) (MC : tM) (fo : Nat → Int64) (fd : Nat → UInt64), v = some (.int kc) ∧ lC cy ad' ct' MC ∧ lR cy ad' ct' M ∧ kSm ad ad' ∧ kOu cy ct' fo fd ∧ (kc = 0 → fd 0 = a) ∧ sp kc a MC
/-- the reference's member -/
def oRi (cy : Nat → ClassId) (ad : Nat → Nat) (ct : Nat → Option va_E) (sp : Int32 → Int32 → tM → Prop) : kPT := fun v ad' ct' => ∃ (b th : Int32) (sm : Int64) (MR : tM), v = some (.int b) ∧ ct' 100 = some (oMod ad' MR th sm) ∧ lR cy ad' ct' MR ∧ kFl ad ad' ct ct' ∧ ad' 100 = ad 100 ∧ sp th b MR
def oRd (cy : Nat → ClassId) (ad : Nat → Nat) (ct : Nat → Option va_E) (sp : Int32 → UInt64 → tM → Prop) : kPT := fun v ad' ct' => ∃ (b : UInt64) (th : Int32) (sm : Int64) (MR : tM), v = some (.double b) ∧ ct' 100 = some (oMod ad' MR th sm) ∧ lR cy ad' ct' MR ∧ kFl ad ad' ct ct' ∧ ad' 100 = ad 100 ∧ sp th b MR
/-- what a call does is fixed, and keeps the invariants -/
def spOk {α : Type} (nb : Nat) (sp : Int32 → α → tM → Prop) : Prop := (∀ k a M1 k2 a2 M2, sp k a M1 → sp k2 a2 M2 → k = k2 ∧ (k = 0 → a = a2) ∧ M1 = M2) ∧ ∀ k a M1, sp k a M1 → okM M1 ∧ okN (nb + 1) M1 ∧ okX M1
variable {p : Program} {l : Launch} {e : Env} {R : Room} {s : State} {m : MethodId} {args : Array Value} {below : List Frame} {meth : Method} {c : Code} {H : Heap} {locs : List Loc} {cells slots : Nat} {Q : State → Prop}
variable {cc : ByteArray} {pc nL : Nat} {ls : Array Slot} {rest : List Value} {s0 : State}
/-- an int of the script -/
theorem k_sld (hx : p.tables.exec = Jvm.exec) (hb : c.code = cc) {b L : Nat} {xs : Nat → Int32} (hX : va_X b L xs s s.heap) (hbl : b < s.heap.size) (hbA : ¬ kA s0 b) (hS : va_S (kA s0) s.heap H locs) {i k : Nat} {t : Int32} (ht : t = nI k) (hik : i + k < L) (hL : L ≤ 3584) (hdg : decode cc pc = .ok (.iaload, 1))
    (kk : W p l e R s m args below meth c H locs cells slots Q (F0 m (pc + 1) ls (.int (xs (i + k)) :: rest))) : W p l e R s m args below meth c H locs cells slots Q (F0 m pc ls (.int (nI i + t) :: .ref b :: rest)) := by
  subst ht
  rw [nI_add]
  have hin : vp_in (nI (i + k)) L := vp_in_nI hik (by omega)
  refine va_sld hx hb hX hbl hbA hS hin hdg ?_
  rw [nI_clamp (by omega)]
  exact kk
end KITW
