/-! MY KIT, 4: arrays, new objects -/
section KITD
variable {p : Program} {l : Launch} {e : Env} {R : Room} {s : State} {m : MethodId} {args : Array Value} {below : List Frame} {meth : Method} {c : Code} {H : Heap} {locs : List Loc} {cells slots : Nat} {Q : State → Prop}
variable {cc : ByteArray} {pc nL : Nat} {ls : Array Slot} {rest : List Value} {lv : List (Option Value)}
variable {D : va_G} {cy : Nat → ClassId} {b k : Nat} {ad : Nat → Nat} {ct : Nat → Option va_E} {A : Nat → Prop} {H0 : Heap} {n : Nat}
abbrev aI (f : Nat → Int32) : (Nat → Int32) ⊕ (Nat → Int64) ⊕ (Nat → UInt32) ⊕ (Nat → UInt64) ⊕ (Nat → Option Nat) := .inl f
abbrev aL (f : Nat → Int64) : (Nat → Int32) ⊕ (Nat → Int64) ⊕ (Nat → UInt32) ⊕ (Nat → UInt64) ⊕ (Nat → Option Nat) := .inr (.inl f)
abbrev aF (f : Nat → UInt32) : (Nat → Int32) ⊕ (Nat → Int64) ⊕ (Nat → UInt32) ⊕ (Nat → UInt64) ⊕ (Nat → Option Nat) := .inr (.inr (.inl f))
abbrev aD (f : Nat → UInt64) : (Nat → Int32) ⊕ (Nat → Int64) ⊕ (Nat → UInt32) ⊕ (Nat → UInt64) ⊕ (Nat → Option Nat) := .inr (.inr (.inr (.inl f)))
abbrev aQ (f : Nat → Option Nat) : (Nat → Int32) ⊕ (Nat → Int64) ⊕ (Nat → UInt32) ⊕ (Nat → UInt64) ⊕ (Nat → Option Nat) := .inr (.inr (.inr (.inr f)))
theorem k_alen (hexec : p.tables.exec = Jvm.exec) (hb : c.code = cc) (hK : va_K D vwCl (ktys cy) s) (hW : kW D b ad ct H) {t : Nat} {x : vp_A} (he : ct k = some (.inl (cy t, x))) {ty : FieldType} (ht : (ktys cy)[t]? = some (cy t, ty)) (hdg : decode cc pc = .ok (.arraylength, 1))
    (kk : W p l e R s m args below meth c H locs cells slots Q (F0 m (pc + 1) ls (.int (nI x.1) :: rest))) : W p l e R s m args below meth c H locs cells slots Q (F0 m pc ls (.ref (ad k) :: rest)) :=
  va_alen hexec hb hK (hW.one he) 0 t rfl ht rfl hdg kk
theorem k_dald (hexec : p.tables.exec = Jvm.exec) (hb : c.code = cc) (hK : va_K D vwCl (ktys cy) s) (hW : kW D b ad ct H) {f : Nat → UInt64} (he : ct k = some (.inl (cy 0, n, aD f))) {i : Int32} (j : Nat) (hj : j < n) (hn : n < 2 ^ 31) (hij : i = nI j) (hdg : decode cc pc = .ok (.daload, 1))
    (kk : W p l e R s m args below meth c H locs cells slots Q (F0 m (pc + 1) ls (.double (f j) :: rest))) : W p l e R s m args below meth c H locs cells slots Q (F0 m pc ls (.int i :: .ref (ad k) :: rest)) := by
  subst hij
  refine va_dald hexec hb hK (hW.one he) 0 0 rfl rfl (vp_in_nI hj hn) hdg ?_
  rw [nI_clamp (by omega)]
  exact kk
theorem k_iald (hexec : p.tables.exec = Jvm.exec) (hb : c.code = cc) (hK : va_K D vwCl (ktys cy) s) (hW : kW D b ad ct H) {f : Nat → Int32} (he : ct k = some (.inl (cy 1, n, aI f))) {i : Int32} (j : Nat) (hj : j < n) (hn : n < 2 ^ 31) (hij : i = nI j) (hdg : decode cc pc = .ok (.iaload, 1))
    (kk : W p l e R s m args below meth c H locs cells slots Q (F0 m (pc + 1) ls (.int (f j) :: rest))) : W p l e R s m args below meth c H locs cells slots Q (F0 m pc ls (.int i :: .ref (ad k) :: rest)) := by
  subst hij
  refine va_iald hexec hb hK (hW.one he) 0 1 rfl rfl (vp_in_nI hj hn) hdg ?_
  rw [nI_clamp (by omega)]
  exact kk
theorem k_fald (hexec : p.tables.exec = Jvm.exec) (hb : c.code = cc) (hK : va_K D vwCl (ktys cy) s) (hW : kW D b ad ct H) {f : Nat → UInt32} (he : ct k = some (.inl (cy 2, n, aF f))) {i : Int32} (j : Nat) (hj : j < n) (hn : n < 2 ^ 31) (hij : i = nI j) (hdg : decode cc pc = .ok (.faload, 1))
    (kk : W p l e R s m args below meth c H locs cells slots Q (F0 m (pc + 1) ls (.float (f j) :: rest))) : W p l e R s m args below meth c H locs cells slots Q (F0 m pc ls (.int i :: .ref (ad k) :: rest)) := by
  subst hij
  refine va_fald hexec hb hK (hW.one he) 0 2 rfl rfl (vp_in_nI hj hn) hdg ?_
  rw [nI_clamp (by omega)]
  exact kk
theorem k_lald (hexec : p.tables.exec = Jvm.exec) (hb : c.code = cc) (hK : va_K D vwCl (ktys cy) s) (hW : kW D b ad ct H) {f : Nat → Int64} (he : ct k = some (.inl (cy 3, n, aL f))) {i : Int32} (j : Nat) (hj : j < n) (hn : n < 2 ^ 31) (hij : i = nI j) (hdg : decode cc pc = .ok (.laload, 1))
    (kk : W p l e R s m args below meth c H locs cells slots Q (F0 m (pc + 1) ls (.long (f j) :: rest))) : W p l e R s m args below meth c H locs cells slots Q (F0 m pc ls (.int i :: .ref (ad k) :: rest)) := by
  subst hij
  refine va_lald hexec hb hK (hW.one he) 0 3 rfl rfl (vp_in_nI hj hn) hdg ?_
  rw [nI_clamp (by omega)]
  exact kk
theorem k_aald (hexec : p.tables.exec = Jvm.exec) (hb : c.code = cc) (hK : va_K D vwCl (ktys cy) s) (hW : kW D b ad ct H) (t : Nat) {C : String} {f : Nat → Option Nat} (he : ct k = some (.inl (cy t, n, aQ f))) (ht : (ktys cy)[t]? = some (cy t, .object C)) {i : Int32} (j : Nat) (hj : j < n) (hn : n < 2 ^ 31) (hij : i = nI j) {v : Value} (hv : va_rf (f j) = v) (hdg : decode cc pc = .ok (.aaload, 1))
    (kk : W p l e R s m args below meth c H locs cells slots Q (F0 m (pc + 1) ls (v :: rest))) : W p l e R s m args below meth c H locs cells slots Q (F0 m pc ls (.int i :: .ref (ad k) :: rest)) := by
  subst hij; subst hv
  refine va_aldq hexec hb hK (hW.one he) 0 t rfl ht (vp_in_nI hj hn) hdg ?_
  rw [nI_clamp (by omega)]
  exact kk
theorem k_dast (hexec : p.tables.exec = Jvm.exec) (hb : c.code = cc) (hK : va_K D vwCl (ktys cy) s) (hW : kW D b ad ct H) (hS : va_S (fun q => b ≤ q) H0 H locs) {f : Nat → UInt64} (he : ct k = some (.inl (cy 0, n, aD f))) (hk0 : k ≠ 0) {i : Int32} {x : UInt64} (j : Nat) (hj : j < n) (hn : n < 2 ^ 31) (hij : i = nI j) (hdg : decode cc pc = .ok (.dastore, 1))
    (kk : ∀ (H1 : Heap) (locs1 : List Loc), kW D b ad (up ct k (.inl (cy 0, n, aD (vf_upd f j x)))) H1 → va_S (fun q => b ≤ q) H0 H1 locs1 → W p l e R s m args below meth c H1 locs1 cells slots Q (F0 m (pc + 1) ls rest)) : W p l e R s m args below meth c H locs cells slots Q (F0 m pc ls (.double x :: .int i :: .ref (ad k) :: rest)) := by
  subst hij
  refine W.dast hexec hb (hW.1 k _ he) ((hK.2 0 _ rfl).1 n (fun j => .double (f j))) (fun q => by cases q) (by show ¬ (nI j < 0 ∨ (arrV _ _ _).slots.size ≤ _); rw [arrV_size]; exact vp_in_nI hj hn) rfl rfl hdg fun H1 e1 z oq => ?_
  refine kk H1 _ (hW.put he ?_ oq) (hS.put z oq (hW.2.2 k _ he hk0))
  show H1[ad k]? = some (vp_cell _ _)
  rw [e1, vp_cell_d, vp_cell_d, arrV_store, nI_clamp (by omega)]
  congr 2
  funext q
  by_cases hq : q = j
  · subst hq
    simp [updV, vf_upd]
  · simp [updV, vf_upd, hq]
theorem k_iast (hexec : p.tables.exec = Jvm.exec) (hb : c.code = cc) (hK : va_K D vwCl (ktys cy) s) (hW : kW D b ad ct H) (hS : va_S (fun q => b ≤ q) H0 H locs) {f : Nat → Int32} (he : ct k = some (.inl (cy 1, n, aI f))) (hk0 : k ≠ 0) {i : Int32} {x : Int32} (j : Nat) (hj : j < n) (hn : n < 2 ^ 31) (hij : i = nI j) (hdg : decode cc pc = .ok (.iastore, 1))
    (kk : ∀ (H1 : Heap) (locs1 : List Loc), kW D b ad (up ct k (.inl (cy 1, n, aI (upd f j x)))) H1 → va_S (fun q => b ≤ q) H0 H1 locs1 → W p l e R s m args below meth c H1 locs1 cells slots Q (F0 m (pc + 1) ls rest)) : W p l e R s m args below meth c H locs cells slots Q (F0 m pc ls (.int x :: .int i :: .ref (ad k) :: rest)) := by
  subst hij
  refine W.iast hexec hb (hW.1 k _ he) ((hK.2 1 _ rfl).1 n (fun j => .int (f j))) (fun q => by cases q) (by show ¬ (nI j < 0 ∨ (arrV _ _ _).slots.size ≤ _); rw [arrV_size]; exact vp_in_nI hj hn) rfl rfl hdg fun H1 e1 z oq => ?_
  refine kk H1 _ (hW.put he ?_ oq) (hS.put z oq (hW.2.2 k _ he hk0))
  show H1[ad k]? = some (vp_cell _ _)
  rw [e1, vp_cell_i, vp_cell_i, arrV_store, nI_clamp (by omega)]
  congr 2
  funext q
  by_cases hq : q = j
  · subst hq
    simp [updV, upd]
  · simp [updV, upd, hq]
theorem k_fast (hexec : p.tables.exec = Jvm.exec) (hb : c.code = cc) (hK : va_K D vwCl (ktys cy) s) (hW : kW D b ad ct H) (hS : va_S (fun q => b ≤ q) H0 H locs) {f : Nat → UInt32} (he : ct k = some (.inl (cy 2, n, aF f))) (hk0 : k ≠ 0) {i : Int32} {x : UInt32} (j : Nat) (hj : j < n) (hn : n < 2 ^ 31) (hij : i = nI j) (hdg : decode cc pc = .ok (.fastore, 1))
    (kk : ∀ (H1 : Heap) (locs1 : List Loc), kW D b ad (up ct k (.inl (cy 2, n, aF (fun q => if q = j then x else f q)))) H1 → va_S (fun q => b ≤ q) H0 H1 locs1 → W p l e R s m args below meth c H1 locs1 cells slots Q (F0 m (pc + 1) ls rest)) : W p l e R s m args below meth c H locs cells slots Q (F0 m pc ls (.float x :: .int i :: .ref (ad k) :: rest)) := by
  subst hij
  refine W.fast hexec hb (hW.1 k _ he) ((hK.2 2 _ rfl).1 n (fun j => .float (f j))) (fun q => by cases q) (by show ¬ (nI j < 0 ∨ (arrV _ _ _).slots.size ≤ _); rw [arrV_size]; exact vp_in_nI hj hn) rfl rfl hdg fun H1 e1 z oq => ?_
  refine kk H1 _ (hW.put he ?_ oq) (hS.put z oq (hW.2.2 k _ he hk0))
  show H1[ad k]? = some (vp_cell _ _)
  rw [e1, vp_cell_f, vp_cell_f, arrV_store, nI_clamp (by omega)]
  congr 2
  funext q
  by_cases hq : q = j
  · subst hq
    simp [updV]
  · simp [updV, hq]
theorem k_last (hexec : p.tables.exec = Jvm.exec) (hb : c.code = cc) (hK : va_K D vwCl (ktys cy) s) (hW : kW D b ad ct H) (hS : va_S (fun q => b ≤ q) H0 H locs) {f : Nat → Int64} (he : ct k = some (.inl (cy 3, n, aL f))) (hk0 : k ≠ 0) {i : Int32} {x : Int64} (j : Nat) (hj : j < n) (hn : n < 2 ^ 31) (hij : i = nI j) (hdg : decode cc pc = .ok (.lastore, 1))
    (kk : ∀ (H1 : Heap) (locs1 : List Loc), kW D b ad (up ct k (.inl (cy 3, n, aL (vp_updL f j x)))) H1 → va_S (fun q => b ≤ q) H0 H1 locs1 → W p l e R s m args below meth c H1 locs1 cells slots Q (F0 m (pc + 1) ls rest)) : W p l e R s m args below meth c H locs cells slots Q (F0 m pc ls (.long x :: .int i :: .ref (ad k) :: rest)) := by
  subst hij
  refine W.last hexec hb (hW.1 k _ he) ((hK.2 3 _ rfl).1 n (fun j => .long (f j))) (fun q => by cases q) (by show ¬ (nI j < 0 ∨ (arrV _ _ _).slots.size ≤ _); rw [arrV_size]; exact vp_in_nI hj hn) rfl rfl hdg fun H1 e1 z oq => ?_
  refine kk H1 _ (hW.put he ?_ oq) (hS.put z oq (hW.2.2 k _ he hk0))
  show H1[ad k]? = some (vp_cell _ _)
  rw [e1, vp_cell_l, vp_cell_l, arrV_store, nI_clamp (by omega)]
  congr 2
  funext q
  by_cases hq : q = j
  · subst hq
    simp [updV, vp_updL]
  · simp [updV, vp_updL, hq]
/-- an object put into an array of its own class -/
theorem k_aast (hexec : p.tables.exec = Jvm.exec) (hb : c.code = cc) (hK : va_K D vwCl (ktys cy) s) (hW : kW D b ad ct H) (hS : va_S (fun q => b ≤ q) H0 H locs) (t : Nat) {r : vw_C} {f : Nat → Option Nat} (he : ct k = some (.inl (cy t, n, aQ f))) (hk0 : k ≠ 0) (ht : (ktys cy)[t]? = some (cy t, .object r.1)) {kv ci : Nat} {vs : List Value} (hv : ct kv = some (.inr (ci, vs))) (hc : vwCl[ci]? = some r) {i : Int32} (j : Nat) (hj : j < n) (hn : n < 2 ^ 31) (hij : i = nI j) (hdg : decode cc pc = .ok (.aastore, 1))
    (kk : ∀ (H1 : Heap) (locs1 : List Loc), kW D b ad (up ct k (.inl (cy t, n, aQ (va_up f j (some (ad kv)))))) H1 → va_S (fun q => b ≤ q) H0 H1 locs1 → W p l e R s m args below meth c H1 locs1 cells slots Q (F0 m (pc + 1) ls rest)) : W p l e R s m args below meth c H locs cells slots Q (F0 m pc ls (.ref (ad kv) :: .int i :: .ref (ad k) :: rest)) := by
  subst hij
  obtain ⟨r', hr', cellV, g1, g2, g3, -⟩ := hW.1 kv _ hv
  have hcls := (hK.1 ci r hc).2
  obtain ⟨kA, comp, k1, k2, k3, -⟩ := (hK.2 t _ ht).2
  have hcomp : comp = D.1 ci := Option.some.inj (k3.symm.trans hcls.1)
  subst hcomp
  obtain ⟨kC, hkC, -⟩ := hcls.2
  refine W.aast hexec hb (hW.1 k _ he) (fun q h => by cases h) (fun h => by cases h) k1 k2 rfl hkC ⟨nI_pos (by omega), by show _ < (arrV _ _ _).slots.size; rw [arrV_size, nI_clamp (by omega)]; exact hj⟩ g1 (fun q h => by rw [g3] at h; cases h) (by rw [g2]; exact hkC) (by rw [g2]; exact va_assign hcls) rfl rfl hdg fun H1 e1 z oq => ?_
  refine kk H1 _ (hW.put he ?_ oq) (hS.put z oq (hW.2.2 k _ he hk0))
  show H1[ad k]? = some (vp_cell _ _)
  rw [e1, vp_cell_q, vp_cell_q, arrV_store, nI_clamp (by omega)]
  congr 2
  funext q
  by_cases hq : q = j
  · subst hq
    simp [updV, va_up, va_rf]
  · simp [updV, va_up, hq]
/-- a new object at the key k -/
theorem k_new (hexec : p.tables.exec = Jvm.exec) (hb : c.code = cc) {own C : String} {T : u_T} {N ci index : Nat} (hts : ∀ w ∈ gT, w.before args s = true) (hin : ∀ w ∈ u_ws C T N, w ∈ gT) (ty : Nat → FieldType) (hty : ∀ k, k < N → parseFieldDescriptor (T k).2.2.1 = some (ty k)) (hown : s.vm.findClass own = some m.cls) (hcl : (Cond.classLink own index C).before args s = true) (hinst : (Cond.instantiable C N).before args s = true) (hini : (Cond.initialized C).before args s = true)
    (hK : va_K D vwCl (ktys cy) s) (hW : kW D b ad ct H) (hS : va_S (fun q => b ≤ q) H0 H locs) (hbH : b ≤ H0.size) (hc : vwCl[ci]? = some (C, T, N)) (k : Nat) (hk : ct k = none) {fs : List Value} (hfs : ∀ j, j < N → defaultValue (ty j) = vp_V fs j) (hcells : cells + 1 ≤ R.cells) (hslots : slots + N ≤ R.slots) (hdg : decode cc pc = .ok (.new index, 3))
    (kk : ∀ (q : Nat) (H1 : Heap), kW D b (upA ad k q) (up ct k (.inr (ci, fs))) H1 → va_S (fun q => b ≤ q) H0 H1 locs → W p l e R s m args below meth c H1 locs (cells + 1) (slots + N) Q (F0 m (pc + 3) ls (.ref (upA ad k q k) :: rest))) : W p l e R s m args below meth c H locs cells slots Q (F0 m pc ls rest) := by
  have hKn := hK.1 ci _ hc
  refine W.newcK hexec hb hown hcl hinst hini rfl hdg hcells hslots hKn.2.1 rfl fun H1 kC hkC e1 z1 o1 => ?_
  have k1 := kk H.size H1 (hW.new hk (Nat.le_trans hbH hS.1) ⟨_, hc, (u_born ty hts hin hKn hkC e1 hty).to hfs⟩ o1) ⟨Nat.le_trans hS.1 (by omega), fun x h1 h2 => (o1 x (Nat.lt_of_lt_of_le h1 hS.1)).trans (hS.2.1 x h1 h2), hS.2.2⟩
  rw [upA_s] at k1
  exact k1
theorem k_newarr (hexec : p.tables.exec = Jvm.exec) (hb : c.code = cc) {atype : ArrayType} (harr : (Cond.arrayClass (newarray.typeOf atype)).before args s = true) (t : Nat) (hK : va_K D vwCl (ktys cy) s) (ht : (ktys cy)[t]? = some (cy t, newarray.typeOf atype)) (hno : ∀ C, newarray.typeOf atype ≠ .object C) (hW : kW D b ad ct H) (hS : va_S (fun q => b ≤ q) H0 H locs) (hbH : b ≤ H0.size)
    (k : Nat) (hk : ct k = none) {i : Int32} {N : Nat} {a0 : vp_A} (ha : ∀ cA : ClassId, vp_cell cA a0 = arrV cA N (fun _ => defaultValue (newarray.typeOf atype))) (hi : i = nI N) (hN : N < 65536) (hbytes : N * componentBytes (newarray.typeOf atype) ≤ 536870912) (hcells : cells + 1 ≤ R.cells) (hslots : slots + N ≤ R.slots) (hdg : decode cc pc = .ok (.newarray atype, 2))
    (kk : ∀ (q : Nat) (H1 : Heap), kW D b (upA ad k q) (up ct k (.inl (cy t, a0))) H1 → va_S (fun q => b ≤ q) H0 H1 locs → W p l e R s m args below meth c H1 locs (cells + 1) (slots + N) Q (F0 m (pc + 2) ls (.ref (upA ad k q k) :: rest))) : W p l e R s m args below meth c H locs cells slots Q (F0 m pc ls (.int i :: rest)) := by
  subst hi
  refine va_newaK hexec hb harr rfl hdg rfl (nI_pos (by omega)) (nI_clamp (by omega)) hbytes hcells hslots rfl fun H1 cA e1 z1 o1 hAr hNm => ?_
  have hcA : cA = cy t := by
    have h := (hK.2 t _ ht).2
    have h' : s.vm.findClass ("[" ++ (newarray.typeOf atype).toString) = some (cy t) := by
      generalize newarray.typeOf atype = T0 at h hno ⊢
      cases T0 <;> first | exact h | exact absurd rfl (hno _)
    exact Option.some.inj (hNm.symm.trans h')
  subst hcA
  have k1 := kk H.size H1 (hW.new hk (Nat.le_trans hbH hS.1) (show H1[H.size]? = some (vp_cell _ _) by rw [ha]; exact e1) o1) ⟨Nat.le_trans hS.1 (by omega), fun x h1 h2 => (o1 x (Nat.lt_of_lt_of_le h1 hS.1)).trans (hS.2.1 x h1 h2), hS.2.2⟩
  rw [upA_s] at k1
  exact k1
theorem k_newref (hexec : p.tables.exec = Jvm.exec) (hb : c.code = cc) {own C : String} {index : Nat} (hown : s.vm.findClass own = some m.cls) (hclink : (Cond.classLink own index C).before args s = true) (hover : (Cond.arrayOver (.object C)).before args s = true) (t : Nat) (hK : va_K D vwCl (ktys cy) s) (ht : (ktys cy)[t]? = some (cy t, .object C)) (hW : kW D b ad ct H) (hS : va_S (fun q => b ≤ q) H0 H locs) (hbH : b ≤ H0.size)
    (k : Nat) (hk : ct k = none) {i : Int32} {N : Nat} (hi : i = nI N) (hN : N < 65536) (hcells : cells + 1 ≤ R.cells) (hslots : slots + N ≤ R.slots) (hdg : decode cc pc = .ok (.anewarray index, 3))
    (kk : ∀ (q : Nat) (H1 : Heap), kW D b (upA ad k q) (up ct k (.inl (cy t, N, aQ (fun _ => none)))) H1 → va_S (fun q => b ≤ q) H0 H1 locs → W p l e R s m args below meth c H1 locs (cells + 1) (slots + N) Q (F0 m (pc + 3) ls (.ref (upA ad k q k) :: rest))) : W p l e R s m args below meth c H locs cells slots Q (F0 m pc ls (.int i :: rest)) := by
  subst hi
  refine W.anew hexec hb hown hclink hover rfl hdg rfl (nI_pos (by omega)) (by rw [nI_clamp (by omega)]; omega) hcells (by rw [nI_clamp (by omega)]; exact hslots) fun cA kA comp f1 f2 f3 f4 => ?_
  rw [nI_clamp (by omega)]
  generalize hH1 : H.push ({ cls := cA, slots := Array.replicate N .null, vm := .none } : Cell) = H1
  have z1 : H1.size = H.size + 1 := by rw [← hH1, Array.size_push]
  have e1 : H1[H.size]? = some (arrV cA N (fun _ => .null)) := by rw [← hH1, Array.getElem?_push_size, ← arrV_new]
  have o1 : ∀ q, q < H.size → H1[q]? = H[q]? := fun q hq => by rw [← hH1, Array.getElem?_push, if_neg (Nat.ne_of_lt hq)]
  have hcA : cA = cy t := by
    obtain ⟨kA', comp', g1, g2, g3, g4⟩ := (hK.2 t _ ht).2
    exact Option.some.inj (f1.symm.trans g4)
  subst hcA
  have k1 := kk H.size H1 (hW.new hk (Nat.le_trans hbH hS.1) (show H1[H.size]? = some (vp_cell _ _) from e1) o1) ⟨Nat.le_trans hS.1 (by omega), fun x h1 h2 => (o1 x (Nat.lt_of_lt_of_le h1 hS.1)).trans (hS.2.1 x h1 h2), hS.2.2⟩
  rw [upA_s] at k1
  exact k1
end KITD
