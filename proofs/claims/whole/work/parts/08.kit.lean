/-! MY KIT: worlds by keys; locals by places; contracts that return or throw -/
section KITA
def up {α : Type} (f : Nat → Option α) (k : Nat) (v : α) : Nat → Option α := fun j => if j = k then some v else f j
theorem up_s {α : Type} {f : Nat → Option α} {k : Nat} {v : α} : up f k v k = some v := if_pos rfl
theorem up_n {α : Type} {f : Nat → Option α} {k j : Nat} {v : α} (h : j ≠ k) : up f k v j = f j := if_neg h
def upA (f : Nat → Nat) (k v : Nat) : Nat → Nat := fun j => if j = k then v else f j
theorem upA_s {f : Nat → Nat} {k v : Nat} : upA f k v k = v := if_pos rfl
theorem upA_n {f : Nat → Nat} {k j v : Nat} (h : j ≠ k) : upA f k v j = f j := if_neg h
/-- the world: what lies at each key, and where; key 0 may lie below b, and isn't written -/
def kW (D : va_G) (b : Nat) (ad : Nat → Nat) (ct : Nat → Option va_E) (H : Heap) : Prop :=
  (∀ (k : Nat) (e : va_E), ct k = some e → va_at D vwCl (ad k, e) H) ∧ (∀ (j k : Nat) (e f : va_E), ct j = some e → ct k = some f → ad j = ad k → j = k) ∧ ∀ (k : Nat) (e : va_E), ct k = some e → k ≠ 0 → b ≤ ad k
theorem kW.one {D : va_G} {b : Nat} {ad : Nat → Nat} {ct : Nat → Option va_E} {H : Heap} (h : kW D b ad ct H) {k : Nat} {e : va_E} (he : ct k = some e) : va_P D vwCl [(ad k, e)] H := by
  intro j q hq
  cases j with
  | zero => cases hq; exact h.1 k e he
  | succ j => cases hq
theorem kW.lt {D : va_G} {b : Nat} {ad : Nat → Nat} {ct : Nat → Option va_E} {H : Heap} (h : kW D b ad ct H) {k : Nat} {e : va_E} (he : ct k = some e) : ad k < H.size := (h.1 k e he).lt
theorem kW.put {D : va_G} {b : Nat} {ad : Nat → Nat} {ct : Nat → Option va_E} {H H1 : Heap} (h : kW D b ad ct H) {k : Nat} {e0 e : va_E} (he : ct k = some e0) (h1 : va_at D vwCl (ad k, e) H1) (oq : ∀ q : Nat, q ≠ ad k → H1[q]? = H[q]?) : kW D b ad (up ct k e) H1 := by
  refine ⟨fun j f hj => ?_, fun i j f g hi hj hij => ?_, fun j f hj h0 => ?_⟩
  · by_cases hjk : j = k
    · subst hjk
      rw [up_s] at hj
      cases hj
      exact h1
    · rw [up_n hjk] at hj
      exact (h.1 j f hj).kept (oq _ (fun z => hjk (h.2.1 j k f e0 hj he z)))
  · have key : ∀ (i : Nat) (f : va_E), up ct k e i = some f → ∃ f', ct i = some f' := by
      intro i f hi
      by_cases hik : i = k
      · subst hik; exact ⟨e0, he⟩
      · rw [up_n hik] at hi; exact ⟨f, hi⟩
    obtain ⟨f', hf⟩ := key i f hi
    obtain ⟨g', hg⟩ := key j g hj
    exact h.2.1 i j f' g' hf hg hij
  · by_cases hjk : j = k
    · subst hjk; exact h.2.2 j e0 he h0
    · rw [up_n hjk] at hj; exact h.2.2 j f hj h0
theorem kW.kept {D : va_G} {b : Nat} {ad : Nat → Nat} {ct : Nat → Option va_E} {H H1 : Heap} (h : kW D b ad ct H) (oq : ∀ q : Nat, q < H.size → H1[q]? = H[q]?) : kW D b ad ct H1 :=
  ⟨fun j f hj => (h.1 j f hj).kept (oq _ (h.lt hj)), h.2.1, h.2.2⟩
theorem kW.new {D : va_G} {b : Nat} {ad : Nat → Nat} {ct : Nat → Option va_E} {H H1 : Heap} (h : kW D b ad ct H) {k : Nat} {e : va_E} (he : ct k = none) (hb : b ≤ H.size) (h1 : va_at D vwCl (H.size, e) H1) (oq : ∀ q : Nat, q < H.size → H1[q]? = H[q]?) : kW D b (upA ad k H.size) (up ct k e) H1 := by
  have ne : ∀ (j : Nat) (f : va_E), ct j = some f → j ≠ k := by
    intro j f hj z
    subst z
    rw [he] at hj
    cases hj
  have key : ∀ (j : Nat) (f : va_E), up ct k e j = some f → (j = k ∧ f = e) ∨ (j ≠ k ∧ ct j = some f) := by
    intro j f hj
    by_cases hjk : j = k
    · subst hjk
      rw [up_s] at hj
      exact Or.inl ⟨rfl, (Option.some.inj hj).symm⟩
    · rw [up_n hjk] at hj
      exact Or.inr ⟨hjk, hj⟩
  refine ⟨fun j f hj => ?_, fun i j f g hi hj hij => ?_, fun j f hj h0 => ?_⟩
  · rcases key j f hj with ⟨rfl, rfl⟩ | ⟨n, hj⟩
    · rw [upA_s]; exact h1
    · rw [upA_n n]; exact (h.1 j f hj).kept (oq _ (h.lt hj))
  · rcases key i f hi with ⟨e1, -⟩ | ⟨ni, hi'⟩ <;> rcases key j g hj with ⟨e2, -⟩ | ⟨nj, hj'⟩
    · rw [e1, e2]
    · rw [e1, upA_s, upA_n nj] at hij
      have := h.lt hj'
      omega
    · rw [e2, upA_s, upA_n ni] at hij
      have := h.lt hi'
      omega
    · rw [upA_n ni, upA_n nj] at hij
      exact h.2.1 i j f g hi' hj' hij
  · rcases key j f hj with ⟨rfl, rfl⟩ | ⟨n, hj⟩
    · rw [upA_s]; exact hb
    · rw [upA_n n]; exact h.2.2 j f hj h0
theorem kW.sub {D : va_G} {b : Nat} {ad : Nat → Nat} {ct ct' : Nat → Option va_E} {H : Heap} (h : kW D b ad ct H) (hs : ∀ (k : Nat) (e : va_E), ct' k = some e → ct k = some e) : kW D b ad ct' H :=
  ⟨fun j f hj => h.1 j f (hs j f hj), fun i j f g hi hj hij => h.2.1 i j f g (hs i f hi) (hs j g hj) hij, fun j f hj h0 => h.2.2 j f (hs j f hj) h0⟩
/-! locals by their places -/
def lvP (ls : Array Slot) (n : Nat) (l : List (Option Value)) : Prop := ls.size = n ∧ lv_wf ls ∧ l.length = n ∧ ∀ (i : Nat) (v : Value), l[i]? = some (some v) → ls[i]? = some (.val v)
theorem lvP.at {ls : Array Slot} {n : Nat} {l : List (Option Value)} (h : lvP ls n l) (i : Nat) {v : Value} (e : l[i]? = some (some v)) : ls[i]? = some (.val v) := h.2.2.2 i v e
def kdr (l : List (Option Value)) : Nat → List (Option Value)
  | 0 => l
  | i + 1 => match l[i]? with
    | some (some w) => if w.category = 2 then l.set i none else l
    | _ => l
def kst1 (l : List (Option Value)) (i : Nat) (v : Value) : List (Option Value) := (kdr l i).set i (some v)
def kst2 (l : List (Option Value)) (i : Nat) (v : Value) : List (Option Value) := ((kdr l i).set i (some v)).set (i + 1) none
theorem kdr_len (l : List (Option Value)) (i : Nat) : (kdr l i).length = l.length := by
  cases i with
  | zero => rfl
  | succ i =>
    show (match l[i]? with | some (some w) => if w.category = 2 then l.set i none else l | _ => l).length = l.length
    split
    · split
      · exact List.length_set ..
      · rfl
    · rfl
theorem kdr_in {l : List (Option Value)} {i j : Nat} {w : Value} (h : (kdr l i)[j]? = some (some w)) : l[j]? = some (some w) ∧ ¬ (j + 1 = i ∧ w.category = 2) := by
  cases i with
  | zero => exact ⟨h, fun q => by omega⟩
  | succ i =>
    have h' : (match l[i]? with | some (some w) => if w.category = 2 then l.set i none else l | _ => l)[j]? = some (some w) := h
    by_cases hj : j = i
    · subst hj
      split at h'
      · rename_i w' hw'
        split at h'
        · rename_i hc
          rw [List.getElem?_set] at h'
          rw [if_pos rfl] at h'
          split at h' <;> simp at h'
        · rename_i hc
          rw [hw'] at h'
          cases h'
          exact ⟨hw', fun q => hc q.2⟩
      · rename_i hn
        exact absurd h' (by intro z; exact hn w z)
    · refine ⟨?_, fun q => hj (by omega)⟩
      split at h'
      · split at h'
        · rwa [List.getElem?_set_ne (fun z => hj z.symm)] at h'
        · exact h'
      · exact h'
theorem lvP.put1 {ls : Array Slot} {n : Nat} {l : List (Option Value)} (h : lvP ls n l) {i : Nat} {v : Value} (hi : i < n) (hc : v.category = 1) : ∃ ls', storeLocals ls i v = some ls' ∧ lvP ls' n (kst1 l i v) := by
  obtain ⟨h1, h2, h3, h4⟩ := h
  obtain ⟨ls', e, h5⟩ := lv_store1 (l := []) (v := v) ⟨h1, h2, fun q hq => absurd hq List.not_mem_nil⟩ hi hc
  refine ⟨ls', e, h5.1, h5.2.1, ?_, fun j w hj => ?_⟩
  · unfold kst1
    rw [List.length_set, kdr_len, h3]
  · unfold kst1 at hj
    by_cases hji : j = i
    · subst hji
      rw [List.getElem?_set, if_pos rfl] at hj
      split at hj
      · cases hj
        exact h5.2.2 (j, v) (List.mem_cons_self)
      · cases hj
    · rw [List.getElem?_set_ne (fun z => hji z.symm)] at hj
      obtain ⟨a1, a2⟩ := kdr_in hj
      obtain ⟨ls2, e2, h6⟩ := lv_store1 (l := [(j, w)]) (v := v) ⟨h1, h2, fun q hq => by rw [List.mem_singleton] at hq; subst hq; exact h4 j w a1⟩ hi hc
      cases e.symm.trans e2
      refine h6.2.2 (j, w) (List.mem_cons_of_mem _ (List.mem_filter.mpr ⟨List.mem_singleton.mpr rfl, ?_⟩))
      simp only [Bool.and_eq_true, Bool.not_eq_true', beq_eq_false_iff_ne, Bool.and_eq_false_iff]
      refine ⟨hji, ?_⟩
      by_cases hq : j + 1 = i
      · exact Or.inr (fun z => a2 ⟨hq, z⟩)
      · exact Or.inl hq
theorem lvP.put2 {ls : Array Slot} {n : Nat} {l : List (Option Value)} (h : lvP ls n l) {i : Nat} {v : Value} (hi : i + 1 < n) (hc : v.category = 2) : ∃ ls', storeLocals ls i v = some ls' ∧ lvP ls' n (kst2 l i v) := by
  obtain ⟨h1, h2, h3, h4⟩ := h
  obtain ⟨ls', e, h5⟩ := lv_store2 (l := []) (v := v) ⟨h1, h2, fun q hq => absurd hq List.not_mem_nil⟩ hi hc
  refine ⟨ls', e, h5.1, h5.2.1, ?_, fun j w hj => ?_⟩
  · unfold kst2
    rw [List.length_set, List.length_set, kdr_len, h3]
  · unfold kst2 at hj
    by_cases hj1 : j = i + 1
    · subst hj1
      rw [List.getElem?_set, if_pos rfl] at hj
      split at hj <;> simp at hj
    · rw [List.getElem?_set_ne (fun z => hj1 z.symm)] at hj
      by_cases hji : j = i
      · subst hji
        rw [List.getElem?_set, if_pos rfl] at hj
        split at hj
        · cases hj
          exact h5.2.2 (j, v) (List.mem_cons_self)
        · cases hj
      · rw [List.getElem?_set_ne (fun z => hji z.symm)] at hj
        obtain ⟨a1, a2⟩ := kdr_in hj
        obtain ⟨ls2, e2, h6⟩ := lv_store2 (l := [(j, w)]) (v := v) ⟨h1, h2, fun q hq => by rw [List.mem_singleton] at hq; subst hq; exact h4 j w a1⟩ hi hc
        cases e.symm.trans e2
        refine h6.2.2 (j, w) (List.mem_cons_of_mem _ (List.mem_filter.mpr ⟨List.mem_singleton.mpr rfl, ?_⟩))
        simp only [Bool.and_eq_true, Bool.not_eq_true', beq_eq_false_iff_ne, Bool.and_eq_false_iff]
        refine ⟨hji, hj1, ?_⟩
        by_cases hq : j + 1 = i
        · exact Or.inr (fun z => a2 ⟨hq, z⟩)
        · exact Or.inl hq
/-- a place forgotten -/
theorem lvP.drop {ls : Array Slot} {n : Nat} {l : List (Option Value)} (h : lvP ls n l) (l' : List (Option Value)) (hl : l'.length = l.length) (hs : ∀ (i : Nat) (v : Value), l'[i]? = some (some v) → l[i]? = some (some v)) : lvP ls n l' :=
  ⟨h.1, h.2.1, hl.trans h.2.2.1, fun i v e => h.2.2.2 i v (hs i v e)⟩
def kargs : List Value → List (Option Value)
  | [] => []
  | v :: vs => if v.category = 2 then some v :: none :: kargs vs else some v :: kargs vs
theorem kargs_in : ∀ (vs : List Value) (o i : Nat) (v : Value), (kargs vs)[i]? = some (some v) → (o + i, v) ∈ lv_args o vs := by
  intro vs
  induction vs with
  | nil => intro o i v h; simp [kargs] at h
  | cons w vs ih =>
    intro o i v h
    unfold kargs at h
    unfold lv_args
    split at h
    · rename_i hc
      cases i with
      | zero => simp at h; subst h; simp
      | succ i =>
        cases i with
        | zero => simp at h
        | succ i =>
          simp only [List.getElem?_cons_succ] at h
          have := ih (o + 2) i v h
          refine List.mem_cons_of_mem _ ?_
          have e : o + (i + 1 + 1) = o + 2 + i := by omega
          rw [e]
          rw [if_pos hc]; exact this
    · rename_i hc
      cases i with
      | zero => simp at h; subst h; simp
      | succ i =>
        simp only [List.getElem?_cons_succ] at h
        have := ih (o + 1) i v h
        refine List.mem_cons_of_mem _ ?_
        have e : o + (i + 1) = o + 1 + i := by omega
        rw [e]
        rw [if_neg hc]; exact this
end KITA
