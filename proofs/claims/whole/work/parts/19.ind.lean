/-! lays: stale cells don't count -/
def gAg (g g' : tGs) : Prop := g.1 = g'.1 ∧ ∀ j, j < g.1 → g.2.1 j = g'.2.1 j ∧ g.2.2 j = g'.2.2 j
theorem kIns_p {w t : UInt64} {a : Nat} {fw fl : Nat → UInt64} (h : fAhead w t (fw a) (fl a)) : kIns w t (a + 1) fw fl = kIns w t a (vf_upd fw (a + 1) (fw a)) (vf_upd fl (a + 1) (fl a)) := if_pos h
theorem kIns_n {w t : UInt64} {a : Nat} {fw fl : Nat → UInt64} (h : ¬ fAhead w t (fw a) (fl a)) : kIns w t (a + 1) fw fl = (vf_upd fw (a + 1) w, vf_upd fl (a + 1) t) := if_neg h
theorem vu_ag {f f' : Nat → UInt64} {N a : Nat} {x : UInt64} (h : ∀ j, j ≤ N → j ≠ a → f j = f' j) {j : Nat} (hj : j ≤ N) : vf_upd f a x j = vf_upd f' a x j := by
  by_cases e : j = a
  · subst e; rw [vu_s, vu_s]
  · rw [vu_n e, vu_n e]; exact h j hj e
theorem kIns_ag (w t : UInt64) : ∀ (a N : Nat) (fw fl fw' fl' : Nat → UInt64), a ≤ N → (∀ j, j ≤ N → j ≠ a → fw j = fw' j) → (∀ j, j ≤ N → j ≠ a → fl j = fl' j) → ∀ j, j ≤ N → (kIns w t a fw fl).1 j = (kIns w t a fw' fl').1 j ∧ (kIns w t a fw fl).2 j = (kIns w t a fw' fl').2 j
  | 0, N, fw, fl, fw', fl', _, h1, h2, j, hj => ⟨vu_ag h1 hj, vu_ag h2 hj⟩
  | a + 1, N, fw, fl, fw', fl', ha, h1, h2, j, hj => by
    have e1 := h1 a (by omega) (by omega)
    have e2 := h2 a (by omega) (by omega)
    by_cases q : fAhead w t (fw a) (fl a)
    · have q' : fAhead w t (fw' a) (fl' a) := by rw [← e1, ← e2]; exact q
      rw [kIns_p q, kIns_p q', e1, e2]
      exact kIns_ag w t a N _ _ _ _ (by omega) (fun i hi hn => vu_ag h1 hi) (fun i hi hn => vu_ag h2 hi) j hj
    · have q' : ¬ fAhead w t (fw' a) (fl' a) := by rw [← e1, ← e2]; exact q
      rw [kIns_n q, kIns_n q']
      exact ⟨vu_ag h1 hj, vu_ag h2 hj⟩
theorem gOne_ag (w t : UInt64) : ∀ (k : Nat) (g g' : tGs), gAg g g' → gAg (gOne w t k g) (gOne w t k g')
  | 0, _, _, h => h
  | k + 1, g, g', h => by
    refine gOne_ag w t k _ _ ⟨congrArg (· + 1) h.1, fun j hj => ?_⟩
    have hj' : j < g.1 + 1 := hj
    have := kIns_ag w t g.1 g.1 g.2.1 g.2.2 g'.2.1 g'.2.2 (Nat.le_refl _) (fun i hi hn => (h.2 i (by omega)).1) (fun i hi hn => (h.2 i (by omega)).2) j (by omega)
    rw [h.1] at this ⊢
    exact this
theorem gOrd_ag (ms : Nat → Nat) (left : UInt64) (ps : Nat → tPc) : ∀ (d i : Nat) (g g' : tGs), gAg g g' → gAg (gOrd ms left ps d i g) (gOrd ms left ps d i g')
  | 0, _, _, _, h => h
  | d + 1, i, g, g', h => gOrd_ag ms left ps d (i + 1) _ _ (gOne_ag _ _ _ _ _ h)
def sAg (s s' : tLs) : Prop := s.1 = s'.1 ∧ s.2.1 = s'.2.1 ∧ s.2.2.1 = s'.2.2.1 ∧ ∀ j, j < s.1 → s.2.2.2.1 j = s'.2.2.2.1 j ∧ s.2.2.2.2 j = s'.2.2.2.2 j
def oAg (o o' : Option tLs) : Prop := (o = none ∧ o' = none) ∨ ∃ s s', o = some s ∧ o' = some s' ∧ sAg s s'
theorem fFirst_ag {P P' : Nat → Bool} : ∀ (d i : Nat), (∀ j, i ≤ j → j < i + d → P j = P' j) → fFirst P d i = fFirst P' d i
  | 0, i, _ => rfl
  | d + 1, i, h => by
    have e := h i (Nat.le_refl _) (by omega)
    by_cases q : P i = true
    · rw [fFirst_at P q, fFirst_at P' (e ▸ q)]
    · rw [fFirst_go P q, fFirst_go P' (e ▸ q)]
      exact fFirst_ag d (i + 1) (fun j h1 h2 => h j (by omega) (by omega))
theorem fInto_ag {s s' : tLs} {w t : UInt64} (h : sAg s s') : oAg (fInto s w t) (fInto s' w t) := by
  obtain ⟨h1, h2, h3, h4⟩ := h
  have e : fFirst (fRow s.2.2.2.1 s.2.2.2.2 w t) s.1 0 = fFirst (fRow s'.2.2.2.1 s'.2.2.2.2 w t) s'.1 0 := by
    rw [← h1]
    refine fFirst_ag _ _ (fun j _ hj => ?_)
    unfold fRow
    rw [(h4 j (by omega)).1, (h4 j (by omega)).2]
  unfold fInto
  rw [← e]
  generalize fFirst (fRow s.2.2.2.1 s.2.2.2.2 w t) s.1 0 = k
  by_cases q : k < s.1
  · rw [if_pos q, if_pos (h1 ▸ q)]
    refine Or.inr ⟨_, _, rfl, rfl, h1, h2, h3, fun j hj => ⟨(h4 j hj).1, ?_⟩⟩
    show vf_upd s.2.2.2.2 k _ j = vf_upd s'.2.2.2.2 k _ j
    rw [(h4 k q).2]
    exact vu_ag (N := s.1 - 1) (fun i hi _ => (h4 i (by omega)).2) (by have : j < s.1 := hj; omega)
  · rw [if_neg q, if_neg (h1 ▸ q)]
    exact Or.inl ⟨rfl, rfl⟩
theorem fNew_ag {wd : UInt64} {sp : Nat} {s s' : tLs} {w t : UInt64} (h : sAg s s') : oAg (fNew wd sp s w t) (fNew wd sp s' w t) := by
  obtain ⟨h1, h2, h3, h4⟩ := h
  unfold fNew
  by_cases q : FP.dcmp w wd = some .gt
  · rw [if_pos q, if_pos q]
    exact Or.inl ⟨rfl, rfl⟩
  · rw [if_neg q, if_neg q, ← h3]
    refine Or.inr ⟨_, _, rfl, rfl, congrArg (· + 1) h1, h2, rfl, fun j hj => ?_⟩
    have hj' : j < s.1 + 1 := hj
    show vf_upd s.2.2.2.1 s.1 _ j = vf_upd s'.2.2.2.1 s'.1 _ j ∧ vf_upd s.2.2.2.2 s.1 _ j = vf_upd s'.2.2.2.2 s'.1 _ j
    rw [← h1]
    exact ⟨vu_ag (N := s.1) (fun i hi hn => (h4 i (by omega)).1) (by omega), vu_ag (N := s.1) (fun i hi hn => (h4 i (by omega)).2) (by omega)⟩
theorem fTurn_ag {s s' : tLs} (h : sAg s s') : sAg (fTurn s) (fTurn s') := ⟨h.1, congrArg (· + 1) h.2.1, h.2.2.1, h.2.2.2⟩
theorem fPutN_ag {wd : UInt64} {sp : Nat} {b : Bool} {s s' : tLs} {w t : UInt64} (h : sAg s s') : oAg (fPutN wd sp b s w t) (fPutN wd sp b s' w t) := by
  rcases fNew_ag (wd := wd) (sp := sp) (w := w) (t := t) h with ⟨e, e'⟩ | ⟨z, z', e, e', hz⟩
  · cases b with
    | false => rw [fPutN_4 e, fPutN_4 e']; exact Or.inl ⟨rfl, rfl⟩
    | true =>
      rcases fNew_ag (wd := wd) (sp := sp) (w := t) (t := w) h with ⟨f, f'⟩ | ⟨y, y', f, f', hy⟩
      · rw [fPutN_3 e f, fPutN_3 e' f']; exact Or.inl ⟨rfl, rfl⟩
      · rw [fPutN_2 e f, fPutN_2 e' f']; exact Or.inr ⟨_, _, rfl, rfl, fTurn_ag hy⟩
  · rw [fPutN_1 e, fPutN_1 e']; exact Or.inr ⟨_, _, rfl, rfl, hz⟩
theorem fPut_ag {wd : UInt64} {sp : Nat} {b : Bool} {s s' : tLs} {w t : UInt64} (h : sAg s s') : oAg (fPut wd sp b s w t) (fPut wd sp b s' w t) := by
  rcases fInto_ag (w := w) (t := t) h with ⟨e, e'⟩ | ⟨z, z', e, e', hz⟩
  · cases b with
    | false => rw [fPut_4 e, fPut_4 e']; exact fPutN_ag h
    | true =>
      rcases fInto_ag (w := t) (t := w) h with ⟨f, f'⟩ | ⟨y, y', f, f', hy⟩
      · rw [fPut_3 e f, fPut_3 e' f']; exact fPutN_ag h
      · rw [fPut_2 e f, fPut_2 e' f']; exact Or.inr ⟨_, _, rfl, rfl, fTurn_ag hy⟩
  · rw [fPut_1 e, fPut_1 e']; exact Or.inr ⟨_, _, rfl, rfl, hz⟩
/-- what a lay answers: covered, rows, turned, needs -/
abbrev tAn : Type := UInt64 × Nat × Nat × UInt64
abbrev anL (r : UInt64 × tLs) : tAn := (r.1, r.2.1, r.2.2.1, r.2.2.2.1)
theorem fLay_ag {wd : UInt64} {sp : Nat} {b : Bool} {fw fl fw' fl' : Nat → UInt64} : ∀ (d i : Nat) (cov : UInt64) (s s' : tLs), (∀ j, i ≤ j → j < i + d → fw j = fw' j ∧ fl j = fl' j) → sAg s s' → (fLay wd sp b fw fl d i cov s).map anL = (fLay wd sp b fw' fl' d i cov s').map anL
  | 0, i, cov, s, s', _, h => by
    show some (anL (cov, s)) = some (anL (cov, s'))
    unfold anL
    rw [h.1, h.2.1, h.2.2.1]
  | d + 1, i, cov, s, s', hf, h => by
    obtain ⟨e1, e2⟩ := hf i (Nat.le_refl _) (by omega)
    rcases fPut_ag (wd := wd) (sp := sp) (b := b) (w := fw i) (t := fl i) h with ⟨e, e'⟩ | ⟨z, z', e, e', hz⟩
    · rw [fLay_no e, fLay_no (show fPut wd sp b s' (fw' i) (fl' i) = none by rw [← e1, ← e2]; exact e')]
    · rw [fLay_go e, fLay_go (s' := z') (show fPut wd sp b s' (fw' i) (fl' i) = some z' by rw [← e1, ← e2]; exact e'), ← e1, ← e2]
      exact fLay_ag d (i + 1) _ z z' (fun j h1 h2 => hf j (by omega) (by omega)) hz
/-! what is gathered is what is put in -/
def gAll (P : UInt64 → UInt64 → Prop) (g : tGs) : Prop := ∀ j, j < g.1 → P (g.2.1 j) (g.2.2 j)
theorem vu_all {P : UInt64 → UInt64 → Prop} {w t : UInt64} {a N : Nat} {fw fl : Nat → UInt64} (ha : a ≤ N) : (∀ j, j ≤ N → P (vf_upd fw a w j) (vf_upd fl a t j)) ↔ (P w t ∧ ∀ j, j ≤ N → j ≠ a → P (fw j) (fl j)) := by
  constructor
  · intro h
    refine ⟨?_, fun j hj hn => ?_⟩
    · have := h a ha
      rwa [vu_s, vu_s] at this
    · have := h j hj
      rwa [vu_n hn, vu_n hn] at this
  · rintro ⟨h1, h2⟩ j hj
    by_cases e : j = a
    · subst e; rw [vu_s, vu_s]; exact h1
    · rw [vu_n e, vu_n e]; exact h2 j hj e
theorem kIns_all (P : UInt64 → UInt64 → Prop) (w t : UInt64) : ∀ (a N : Nat) (fw fl : Nat → UInt64), a ≤ N → ((∀ j, j ≤ N → P ((kIns w t a fw fl).1 j) ((kIns w t a fw fl).2 j)) ↔ (P w t ∧ ∀ j, j ≤ N → j ≠ a → P (fw j) (fl j)))
  | 0, N, fw, fl, ha => vu_all ha
  | a + 1, N, fw, fl, ha => by
    by_cases q : fAhead w t (fw a) (fl a)
    · rw [kIns_p q, kIns_all P w t a N _ _ (by omega)]
      constructor
      · rintro ⟨h1, h2⟩
        refine ⟨h1, fun j hj hn => ?_⟩
        by_cases e : j = a
        · subst e
          have := h2 (j + 1) (by omega) (by omega)
          rwa [vu_s, vu_s] at this
        · have := h2 j hj e
          rwa [vu_n hn, vu_n hn] at this
      · rintro ⟨h1, h2⟩
        refine ⟨h1, fun j hj hn => ?_⟩
        by_cases e : j = a + 1
        · subst e
          rw [vu_s, vu_s]
          exact h2 a (by omega) (by omega)
        · rw [vu_n e, vu_n e]
          exact h2 j hj e
    · rw [kIns_n q]
      exact vu_all ha
theorem gOne_all (P : UInt64 → UInt64 → Prop) (w t : UInt64) : ∀ (k : Nat) (g : tGs), gAll P (gOne w t k g) ↔ (gAll P g ∧ (0 < k → P w t))
  | 0, g => ⟨fun h => ⟨h, fun z => absurd z (Nat.lt_irrefl _)⟩, fun h => h.1⟩
  | k + 1, g => by
    show gAll P (gOne w t k (g.1 + 1, (kIns w t g.1 g.2.1 g.2.2).1, (kIns w t g.1 g.2.1 g.2.2).2)) ↔ _
    rw [gOne_all P w t k]
    have hk := kIns_all P w t g.1 g.1 g.2.1 g.2.2 (Nat.le_refl _)
    constructor
    · rintro ⟨h1, -⟩
      have h2 := hk.mp (fun j hj => h1 j (by show j < g.1 + 1; omega))
      exact ⟨fun j hj => h2.2 j (by omega) (by omega), fun _ => h2.1⟩
    · rintro ⟨h1, h2⟩
      have h3 := hk.mpr ⟨h2 (Nat.succ_pos _), fun j hj hn => h1 j (by omega)⟩
      exact ⟨fun j hj => h3 j (by have : j < g.1 + 1 := hj; omega), fun _ => h2 (Nat.succ_pos _)⟩
theorem gOrd_all (P : UInt64 → UInt64 → Prop) (ms : Nat → Nat) (left : UInt64) (ps : Nat → tPc) : ∀ (d i : Nat) (g : tGs), gAll P (gOrd ms left ps d i g) ↔ (gAll P g ∧ ∀ j, i ≤ j → j < i + d → 0 < (ps j).2.2.2 → P (fWide ms left (ps j)) (fLong ms left (ps j)))
  | 0, i, g => ⟨fun h => ⟨h, fun j h1 h2 => absurd h2 (by omega)⟩, fun h => h.1⟩
  | d + 1, i, g => by
    show gAll P (gOrd ms left ps d (i + 1) _) ↔ _
    rw [gOrd_all P ms left ps d (i + 1), gOne_all]
    constructor
    · rintro ⟨⟨h1, h2⟩, h3⟩
      refine ⟨h1, fun j a b c => ?_⟩
      by_cases e : j = i
      · subst e; exact h2 c
      · exact h3 j (by omega) (by omega) c
    · rintro ⟨h1, h2⟩
      exact ⟨⟨h1, h2 i (Nat.le_refl _) (by omega)⟩, fun j a b c => h2 j (by omega) (by omega) c⟩
