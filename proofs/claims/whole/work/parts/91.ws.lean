/-! what holds at the law's start -/
section START
theorem sad_of {s : State} : ∀ L : List (String × Nat × String), (∀ q ∈ L, ∃ a : Nat, vk_R q.1 q.2.1 q.2.2 a s) → ∃ sad : Nat → Nat, kstrs sad L s
  | [], _ => ⟨fun _ => 0, fun i q h => nomatch h⟩
  | q :: L, h => by
    obtain ⟨a, ha⟩ := h q List.mem_cons_self
    obtain ⟨sad, hs⟩ := sad_of L (fun q hq => h q (List.mem_cons_of_mem _ hq))
    refine ⟨fun i => match i with | 0 => a | i + 1 => sad i, fun i q' hi => ?_⟩
    cases i with
    | zero => cases hi; exact ha
    | succ i => exact hs i q' hi
theorem cls_of {s : State} : ∀ cl : List vw_C, (∀ q ∈ cl, ∃ (cC : ClassId) (iS : Nat → Nat), u_Kn s q.1 q.2.1 q.2.2 cC iS) → ∃ D : va_G, ∀ (c : Nat) (q : vw_C), cl[c]? = some q → u_Kn s q.1 q.2.1 q.2.2 (D.1 c) (D.2 c)
  | [], _ => ⟨(fun _ => 0, fun _ _ => 0), fun i q h => nomatch h⟩
  | q :: L, h => by
    obtain ⟨cC, iS, ha⟩ := h q List.mem_cons_self
    obtain ⟨D, hs⟩ := cls_of L (fun q hq => h q (List.mem_cons_of_mem _ hq))
    refine ⟨(fun i => match i with | 0 => cC | i + 1 => D.1 i, fun i => match i with | 0 => iS | i + 1 => D.2 i), fun i q' hi => ?_⟩
    cases i with
    | zero => cases hi; exact ha
    | succ i => exact hs i q' hi
theorem arr_of {s : State} : ∀ tys : List FieldType, (∀ ty ∈ tys, ∃ c : ClassId, ArrOfT s c ty ∧ va_RA s c ty) → ∃ cy : Nat → ClassId, ∀ (k : Nat) (ty : FieldType), tys[k]? = some ty → ArrOfT s (cy k) ty ∧ va_RA s (cy k) ty
  | [], _ => ⟨fun _ => 0, fun i q h => nomatch h⟩
  | q :: L, h => by
    obtain ⟨a, ha⟩ := h q List.mem_cons_self
    obtain ⟨cy, hs⟩ := arr_of L (fun q hq => h q (List.mem_cons_of_mem _ hq))
    refine ⟨fun i => match i with | 0 => a | i + 1 => cy i, fun i q' hi => ?_⟩
    cases i with
    | zero => cases hi; exact ha
    | succ i => exact hs i q' hi
theorem arr_p {s : State} {args : Array Value} {ty : FieldType} (hn : ∀ C, ty ≠ .object C) (h : (Cond.arrayClass ty).before args s = true) : ∃ c : ClassId, ArrOfT s c ty ∧ va_RA s c ty := by
  obtain ⟨c, k, comp, h1, h2, h3⟩ := Cond.arrayClass_spec h
  refine ⟨c, fun n z => ⟨(fun k h => by cases h), k, h2, comp, h3⟩, ?_⟩
  cases ty <;> first | exact h1 | exact absurd rfl (hn _)
theorem arr_o {s : State} {args : Array Value} {C : String} (h : (Cond.arrayOver (.object C)).before args s = true) : ∃ c : ClassId, ArrOfT s c (.object C) ∧ va_RA s c (.object C) := by
  obtain ⟨comp, c, k, h1, h2, h3, h4, h5⟩ := Cond.arrayOver_spec h
  exact ⟨c, fun n z => ⟨(fun k h => by cases h), k, h3, comp, h4⟩, k, comp, h3, h4, h1, h5⟩
theorem ktys_of {s : State} {cy : Nat → ClassId} (h : ∀ (k : Nat) (ty : FieldType), kty[k]? = some ty → ArrOfT s (cy k) ty ∧ va_RA s (cy k) ty) : ∀ (k : Nat) (q : ClassId × FieldType), (ktys cy)[k]? = some q → ArrOfT s q.1 q.2 ∧ va_RA s q.1 q.2 := by
  intro k q hk
  have hl : k < 11 := (List.getElem?_eq_some_iff.mp hk).1
  rcases (show k = 0 ∨ k = 1 ∨ k = 2 ∨ k = 3 ∨ k = 4 ∨ k = 5 ∨ k = 6 ∨ k = 7 ∨ k = 8 ∨ k = 9 ∨ k = 10 by omega) with rfl | rfl | rfl | rfl | rfl | rfl | rfl | rfl | rfl | rfl | rfl
  all_goals (cases hk; exact h _ _ rfl)
theorem str_of {s : State} {args : Array Value} {own tx : String} {k : Nat} (h1 : (Cond.stringRef own k tx).before args s = true) (h2 : (Cond.exactly (.string own k) "java/lang/String").before args s = true) : ∃ a : Nat, vk_R own k tx a s := by
  obtain ⟨a, c, cell, kk, q1, -⟩ := Cond.exactly_spec h2
  exact ⟨a, vk_R.of (A := args) h1 q1⟩
theorem kEm_of {s : State} {args : Array Value} {t : Term} {n : String} (h1 : (Cond.exactly t n).before args s = true) (h2 : (Cond.arrayOf t (.object "java/lang/Object")).before args s = true) (h3 : (Cond.eq (.length t) (.int 0)).before args s = true) : ∃ em : Nat, t.eval args s none [] s = some (.ref em) ∧ kEm em s := by
  obtain ⟨a, c, cell, k, q1, q2, q3, -⟩ := Cond.exactly_spec h1
  obtain ⟨a2, cell2, e1, e2, e3⟩ := Term.length_spec (va_eqt h3)
  cases q1.symm.trans e1
  obtain ⟨f1, -, -, -⟩ := State.arrayAt?_spec e2
  exact ⟨a, q1, cell2, f1, (Cond.arrayOf_spec h2 q1 f1).1, (Value.int.inj e3).symm⟩
/-- everything that the walks stand on, out of what the Statement gives -/
theorem kG_of {l : Launch} {s : State} {args : Array Value} (hflags : l.flags = flags0) (hts : ∀ w ∈ lw_tbl, w.before args s = true) (hg : (Jvm.Cond.and given_1 narrow_1).before args s = true) : ∃ (D : va_G) (cy : Nat → ClassId) (sad : Nat → Nat) (em : Nat), kG kSTR l D cy sad em s args ∧ kN3 s := by
  have hs := flat_of_before _ hg
  have hts2 : ∀ w ∈ gT, w.before args s = true := fun w hw => hts w (gT_of hw).1
  have hA : ∀ a : Nat, a < s.heap.size → ¬ kA s a := fun a h => Nat.not_le.mpr h
  obtain ⟨D, hD⟩ := cls_of (s := s) vwCl (List.forall_mem_cons.mpr ⟨u_known hts2 w_RJx35411 (hts _ q1082), List.forall_mem_cons.mpr ⟨u_known hts2 w_RJx4a65c (hts _ q843), List.forall_mem_cons.mpr ⟨u_known hts2 w_RX0 (hts _ q373), List.forall_mem_cons.mpr ⟨u_known hts2 w_RX1 (hts _ q641), List.forall_mem_cons.mpr ⟨u_known hts2 w_RX2 (hts _ q338), List.forall_mem_cons.mpr ⟨u_known hts2 w_RX3 (hts _ q351), List.forall_mem_cons.mpr ⟨u_known hts2 w_RX4 (hts _ q343), List.forall_mem_cons.mpr ⟨u_known hts2 w_RX5 (hts _ q566), List.forall_mem_cons.mpr ⟨u_known hts2 w_RX6 (hts _ q105), List.forall_mem_cons.mpr ⟨u_known hts2 w_RX7 (hts _ q87), List.forall_mem_cons.mpr ⟨u_known hts2 w_RX8 (hts _ q932), List.forall_mem_cons.mpr ⟨u_known hts2 w_RX9 (hts _ q1196), List.forall_mem_cons.mpr ⟨u_known hts2 w_RX10 (hts _ q1137), List.forall_mem_cons.mpr ⟨u_known hts2 w_RX11 (hts _ q837), fun _ h => absurd h List.not_mem_nil⟩⟩⟩⟩⟩⟩⟩⟩⟩⟩⟩⟩⟩⟩)
  obtain ⟨cy, hcy⟩ := arr_of (s := s) kty (List.forall_mem_cons.mpr ⟨arr_p (fun C z => nomatch z) (hts _ q148), List.forall_mem_cons.mpr ⟨arr_p (fun C z => nomatch z) (hts _ q1052), List.forall_mem_cons.mpr ⟨arr_p (fun C z => nomatch z) (hts _ q911), List.forall_mem_cons.mpr ⟨arr_p (fun C z => nomatch z) (hts _ q1412), List.forall_mem_cons.mpr ⟨arr_o (hts _ q95), List.forall_mem_cons.mpr ⟨arr_o (hts _ q97), List.forall_mem_cons.mpr ⟨arr_o (hts _ q99), List.forall_mem_cons.mpr ⟨arr_o (hts _ q101), List.forall_mem_cons.mpr ⟨arr_o (hts _ q103), List.forall_mem_cons.mpr ⟨arr_o (hts _ q572), List.forall_mem_cons.mpr ⟨arr_o (hts _ q1012), fun _ h => absurd h List.not_mem_nil⟩⟩⟩⟩⟩⟩⟩⟩⟩⟩⟩)
  obtain ⟨sad, hsad⟩ := sad_of (s := s) kSTR (List.forall_mem_cons.mpr ⟨str_of (hts _ q261) (hs _ (List.mem_of_getElem? (i := 169) (by decide +kernel))), List.forall_mem_cons.mpr ⟨str_of (hts _ q309) (hs _ (List.mem_of_getElem? (i := 188) (by decide +kernel))), List.forall_mem_cons.mpr ⟨str_of (hts _ q316) (hs _ (List.mem_of_getElem? (i := 205) (by decide +kernel))), List.forall_mem_cons.mpr ⟨str_of (hts _ q329) (hs _ (List.mem_of_getElem? (i := 223) (by decide +kernel))), List.forall_mem_cons.mpr ⟨str_of (hts _ q330) (hs _ (List.mem_of_getElem? (i := 240) (by decide +kernel))), List.forall_mem_cons.mpr ⟨str_of (hts _ q424) (hs _ (List.mem_of_getElem? (i := 258) (by decide +kernel))), List.forall_mem_cons.mpr ⟨str_of (hts _ q438) (hs _ (List.mem_of_getElem? (i := 282) (by decide +kernel))), List.forall_mem_cons.mpr ⟨str_of (hts _ q448) (hs _ (List.mem_of_getElem? (i := 298) (by decide +kernel))), List.forall_mem_cons.mpr ⟨str_of (hts _ q458) (hs _ (List.mem_of_getElem? (i := 323) (by decide +kernel))), List.forall_mem_cons.mpr ⟨str_of (hts _ q517) (hs _ (List.mem_of_getElem? (i := 345) (by decide +kernel))), List.forall_mem_cons.mpr ⟨str_of (hts _ q518) (hs _ (List.mem_of_getElem? (i := 371) (by decide +kernel))), List.forall_mem_cons.mpr ⟨str_of (hts _ q551) (hs _ (List.mem_of_getElem? (i := 393) (by decide +kernel))), List.forall_mem_cons.mpr ⟨str_of (hts _ q552) (hs _ (List.mem_of_getElem? (i := 408) (by decide +kernel))), List.forall_mem_cons.mpr ⟨str_of (hts _ q565) (hs _ (List.mem_of_getElem? (i := 427) (by decide +kernel))), List.forall_mem_cons.mpr ⟨str_of (hts _ q606) (hs _ (List.mem_of_getElem? (i := 449) (by decide +kernel))), List.forall_mem_cons.mpr ⟨str_of (hts _ q610) (hs _ (List.mem_of_getElem? (i := 466) (by decide +kernel))), List.forall_mem_cons.mpr ⟨str_of (hts _ q611) (hs _ (List.mem_of_getElem? (i := 496) (by decide +kernel))), List.forall_mem_cons.mpr ⟨str_of (hts _ q639) (hs _ (List.mem_of_getElem? (i := 533) (by decide +kernel))), List.forall_mem_cons.mpr ⟨str_of (hts _ q640) (hs _ (List.mem_of_getElem? (i := 554) (by decide +kernel))), List.forall_mem_cons.mpr ⟨str_of (hts _ q662) (hs _ (List.mem_of_getElem? (i := 575) (by decide +kernel))), List.forall_mem_cons.mpr ⟨str_of (hts _ q663) (hs _ (List.mem_of_getElem? (i := 597) (by decide +kernel))), List.forall_mem_cons.mpr ⟨str_of (hts _ q718) (hs _ (List.mem_of_getElem? (i := 625) (by decide +kernel))), List.forall_mem_cons.mpr ⟨str_of (hts _ q719) (hs _ (List.mem_of_getElem? (i := 653) (by decide +kernel))), List.forall_mem_cons.mpr ⟨str_of (hts _ q745) (hs _ (List.mem_of_getElem? (i := 674) (by decide +kernel))), List.forall_mem_cons.mpr ⟨str_of (hts _ q753) (hs _ (List.mem_of_getElem? (i := 696) (by decide +kernel))), List.forall_mem_cons.mpr ⟨str_of (hts _ q769) (hs _ (List.mem_of_getElem? (i := 720) (by decide +kernel))), List.forall_mem_cons.mpr ⟨str_of (hts _ q778) (hs _ (List.mem_of_getElem? (i := 743) (by decide +kernel))), List.forall_mem_cons.mpr ⟨str_of (hts _ q790) (hs _ (List.mem_of_getElem? (i := 765) (by decide +kernel))), fun _ h => absurd h List.not_mem_nil⟩⟩⟩⟩⟩⟩⟩⟩⟩⟩⟩⟩⟩⟩⟩⟩⟩⟩⟩⟩⟩⟩⟩⟩⟩⟩⟩⟩)
  obtain ⟨em, hem1, hem2⟩ := kEm_of (t := .static "java/util/ArrayList" "DEFAULTCAPACITY_EMPTY_ELEMENTDATA" "[Ljava/lang/Object;") (n := "[Ljava/lang/Object;") (hs _ (List.mem_of_getElem? (i := 8) (by decide +kernel))) (hs _ (List.mem_of_getElem? (i := 7) (by decide +kernel))) (hs _ (List.mem_of_getElem? (i := 9) (by decide +kernel)))
  have n1 : (Cond.not (.castable eSta eArg)).before args s = true := (hs _ (List.mem_of_getElem? (i := 16) (by decide +kernel)))
  have n2 : (Cond.not (.castable eArg eIdx)).before args s = true := (hs _ (List.mem_of_getElem? (i := 48) (by decide +kernel)))
  have n3 : (Cond.not (.castable eSta eIdx)).before args s = true := (hs _ (List.mem_of_getElem? (i := 49) (by decide +kernel)))
  refine ⟨D, cy, sad, em, ⟨hts, ?_, ⟨hD, ktys_of hcy⟩, vx_Zqof (hts _ q247) (hts _ q61) (hs _ (List.mem_of_getElem? (i := 4) (by decide +kernel))) hA, vx_Zqof (hts _ q249) (hts _ q61) (hs _ (List.mem_of_getElem? (i := 5) (by decide +kernel))) hA, hsad, va_Zof (hts _ q855) (hts _ q60) hem1 hA, va_Zof (hts _ q1293) (hts _ q69) (va_eql (hs _ (List.mem_of_getElem? (i := 11) (by decide +kernel)))) hA, va_Zof (hts _ q1253) (hts _ q83) (va_eqi (hs _ (List.mem_of_getElem? (i := 10) (by decide +kernel)))) hA, hem2⟩, va_Nc.of n1, va_Nc.of n2, va_Nc.of n3⟩
  show (!l.flags.contains noTraceFlag) = false
  rw [hflags]
  decide +kernel
end START
