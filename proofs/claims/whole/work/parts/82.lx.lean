/-! the law's cases: small rows -/
section KITX
variable {p : Program} {l : Launch} {e : Env} {R : Room} {s : State} {m : MethodId} {args : Array Value} {below : List Frame} {meth : Method} {c : Code} {H : Heap} {locs : List Loc} {cells slots : Nat} {Q : State → Prop}
variable {cc : ByteArray} {pc : Nat} {ls : Array Slot} {rest : List Value}
/-- whether an int isn't 0 -/
def fBo (x : Int32) : Int32 := if x = 0 then 0 else 1
theorem k_bool (hx : p.tables.exec = Jvm.exec) (hb : c.code = cc) {x : Int32} (d1 : decode cc pc = .ok (.ifCond .eq 7, 3)) (d2 : decode cc (pc + 3) = .ok (.iconst 1, 1)) (d3 : decode cc (pc + 4) = .ok (.goto 4, 3)) (d4 : decode cc (pc + 7) = .ok (.iconst 0, 1))
    (kk : W p l e R s m args below meth c H locs cells slots Q (F0 m (pc + 8) ls (.int (fBo x) :: rest))) : W p l e R s m args below meth c H locs cells slots Q (F0 m pc ls (.int x :: rest)) := by
  refine lv_if_eq (tgt := pc + 7) hx hb d1 (by omega) (fun z => ?_) (fun z => ?_)
  · refine lv_iconst (v := 0) hx hb d4 (by decide) ?_
    have e9 : fBo x = 0 := if_pos z
    rw [← e9]
    exact kk
  · refine lv_iconst (v := 1) hx hb d2 (by decide) ?_
    have e9 : fBo x = 1 := if_neg z
    rw [← e9]
    exact lv_goto (tgt := pc + 8) hx hb d3 (by omega) kk
theorem lg_self (x : Int64) : lg_cmp x x = 0 := by
  unfold lg_cmp
  rw [if_neg (by rw [gt_iff_lt, Int64.lt_iff_toInt_lt]; omega), if_pos rfl]
theorem lI_end {cy : Nat → ClassId} {em nb : Nat} {adC adR : Nat → Nat} {ctC ctR : Nat → Option va_E} {MC MR : tM} {fo : Nat → Int64} {fd : Nat → UInt64} (hlC : lC cy adC ctC MC) (hM : MC = MR) (hfl : kFl adC adR ctC ctR) (hR : lR cy adR ctR MR) (hi : okM MR ∧ okN (nb + 1) MR ∧ okX MR) (h0 : adC 0 = em) (hou : kOu cy ctC fo fd) : lI cy em (nb + 1) MR adR ctR := by
  subst hM
  exact ⟨hlC.mv hi.1 (fun j hj => hfl j (by omega)), hR, hi.1, hi.2.1, hi.2.2, (hfl 0 (by omega)).1.trans h0, ⟨fo, (hfl 90 (by omega)).2.trans hou.1⟩, fd, (hfl 91 (by omega)).2.trans hou.2⟩
end KITX
