/-! numbers, 2: the greater one, the smaller one -/
def gOK (x : UInt64) : Prop := vf_n64 x ∧ (FP.dcmp x cD0 = some .eq → x = cD0)
theorem gOK_0 : gOK cD0 := ⟨vf_of dP_c0.nn, fun _ => rfl⟩
theorem sgn_dP {a b : Nat} {x : UInt64} (h : dP a b x) : ¬ 2 ^ 63 ≤ x.toNat := by
  obtain ⟨⟨c, q, e⟩, -⟩ := id h
  have h1 := FP.Core.sgn_bits h.fin.ne_nan
  rw [e] at h1
  intro z
  rw [decide_eq_true z] at h1
  exact Bool.noConfusion (show false = true from h1)
theorem gOK_dP {a b : Nat} {x : UInt64} (h : dP a b x) : gOK x := by
  refine ⟨vf_of h.nn, fun z => ?_⟩
  have h1 : FP.Core.DZero x := FP.Core.zero_iff.mp z
  have h2 := (FP.Core.zero_bits2 x).mp h1
  have h3 := sgn_dP h
  have h4 : x.toNat = 0 := by
    have := x.toNat_lt
    omega
  exact UInt64.toNat_inj.mp h4
theorem eq_gOK {x y : UInt64} (hx : gOK x) (hy : gOK y) (h : FP.dcmp x y = some .eq) : x = y := by
  by_cases hz : FP.Core.DZero y
  · have hy0 : y = cD0 := hy.2 (FP.Core.zero_iff.mpr hz)
    rw [hy0] at h ⊢
    exact hx.2 h
  · exact FP.Core.eq_bits hz h
theorem cmp_some {x y : UInt64} (hx : vf_n64 x) (hy : vf_n64 y) : ∃ o, FP.dcmp x y = some o := FP.Core.dcmp_of_notNaN (vf_to hx) (vf_to hy)
theorem dcmp_sw {x y : UInt64} : FP.dcmp y x = (FP.dcmp x y).map Ordering.swap := FP.Core.dcmp_swap x y
theorem fMx_t {x y : UInt64} (hx : gOK x) (hy : gOK y) : fMx true x y = if FP.dcmp y x = some .gt then y else x := by
  obtain ⟨o, ho⟩ := cmp_some hx.1 hy.1
  have hs : FP.dcmp y x = some o.swap := by rw [dcmp_sw, ho]; rfl
  unfold fMx
  rw [hs, ho]
  cases o with
  | lt => rfl
  | gt => rfl
  | eq =>
    have e := eq_gOK hx hy ho
    subst e
    show (if _ then x else x) = if _ then x else x
    split <;> split <;> rfl
theorem fMx_f {x y : UInt64} (hx : gOK x) (hy : gOK y) : fMx false x y = if FP.dcmp y x = some .lt then y else x := by
  obtain ⟨o, ho⟩ := cmp_some hx.1 hy.1
  have hs : FP.dcmp y x = some o.swap := by rw [dcmp_sw, ho]; rfl
  unfold fMx
  rw [hs, ho]
  cases o with
  | lt => rfl
  | gt => rfl
  | eq =>
    have e := eq_gOK hx hy ho
    subst e
    show (if _ then x else x) = if _ then x else x
    split <;> split <;> rfl
theorem fMx_b {b : Bool} {x y : UInt64} (hx : gOK x) (hy : gOK y) : fMx b x y = if FP.dcmp y x = some (if b then .gt else .lt) then y else x := by
  cases b with
  | true => exact fMx_t hx hy
  | false => exact fMx_f hx hy
theorem fMx_ok {b : Bool} {x y : UInt64} (hx : gOK x) (hy : gOK y) : gOK (fMx b x y) := by
  rw [fMx_b hx hy]
  by_cases q : FP.dcmp y x = some (if b then .gt else .lt)
  · rw [if_pos q]; exact hy
  · rw [if_neg q]; exact hx
theorem fMx_beg {a b c d : Nat} {x y : UInt64} (hx : dP a b x) (hy : dP c d y) : fMx true x y = fBeg x y := by
  obtain ⟨o, ho⟩ := cmp_some (vf_of hx.nn) (vf_of hy.nn)
  have gx := gOK_dP hx
  have gy := gOK_dP hy
  unfold fMx fBeg
  rw [ho]
  cases o with
  | lt => exact (if_pos (Or.inl rfl)).symm
  | gt => exact (if_neg (fun z => z.elim (fun z => by cases z) (fun z => by cases z))).symm
  | eq =>
    have e := eq_gOK gx gy ho
    subst e
    show (if _ then x else x) = if _ then x else x
    split <;> split <;> rfl
/-- what two differ by is zero only where they don't -/
theorem dsub_nz {a b c d : Nat} {x y : UInt64} (hx : dP a b x) (hy : dP c d y) (h : fM x < fM y) : ¬ FP.Core.DZero (FP.dsub x y) := by
  obtain ⟨⟨cx, qx, ex⟩, -, -⟩ := id hx
  obtain ⟨⟨cy, qy, ey⟩, -, -⟩ := id hy
  have hv : FP.Core.val64 (FP.dsub x y) = FP.Core.round FP.Core.b64 (FP.Core.exactSum (.fin false cx qx) (.fin true cy qy)) := by
    have := FP.Core.val64_dsub x y
    rw [ex, ey] at this
    exact this
  have fx := fits_q ex
  have fy := fits_q ey
  have mx := fM_fin ex
  have my := fM_fin ey
  have hin0 : FP.Core.inUnits cx qx (min qx qy) * 2 ^ (min qx qy - FP.Core.b64.qmin).toNat = fM x := by
    rw [mx]; unfold FP.Core.inUnits
    rw [Nat.mul_assoc, ← Nat.pow_add]; congr 2; omega
  have hin1 : FP.Core.inUnits cy qy (min qx qy) * 2 ^ (min qx qy - FP.Core.b64.qmin).toNat = fM y := by
    rw [my]; unfold FP.Core.inUnits
    rw [Nat.mul_assoc, ← Nat.pow_add]; congr 2; omega
  have hlt : FP.Core.inUnits cx qx (min qx qy) < FP.Core.inUnits cy qy (min qx qy) := by
    refine Nat.lt_of_mul_lt_mul_right (a := 2 ^ (min qx qy - FP.Core.b64.qmin).toNat) ?_
    rw [hin0, hin1]
    exact h
  have hs : FP.Core.exactSum (.fin false cx qx) (.fin true cy qy) = .fin true (FP.Core.inUnits cy qy (min qx qy) - FP.Core.inUnits cx qx (min qx qy)) (min qx qy) := by
    show FP.Core.Datum.fin (FP.Core.sumSign false true _) _ _ = _
    have e1 : FP.Core.sumUnits false cx qx true cy qy (min qx qy) = -((FP.Core.inUnits cy qy (min qx qy) - FP.Core.inUnits cx qx (min qx qy) : Nat) : Int) := by
      show FP.Core.signed false _ + FP.Core.signed true _ = _
      unfold FP.Core.signed
      simp
      omega
    rw [e1]
    congr 1
    · unfold FP.Core.sumSign
      split
      · omega
      · exact decide_eq_true (by omega)
    · omega
  rw [hs] at hv
  have hin : FP.Core.inUnits (FP.Core.inUnits cy qy (min qx qy) - FP.Core.inUnits cx qx (min qx qy)) (min qx qy) FP.Core.b64.qmin = fM y - fM x := by
    rw [← hin0, ← hin1, ← Nat.sub_mul]
    rfl
  obtain ⟨c', q', h1, h2⟩ := FP.Core.round_exact FP.Core.good_b64 false (c := 1) (q := FP.Core.b64.qmin) (by decide) (by decide) (by decide)
  have e2 : FP.Core.zmag FP.Core.b64 (FP.Core.round FP.Core.b64 (.fin false 1 FP.Core.b64.qmin)) = 1 := by
    rw [h1]
    show FP.Core.inUnits c' q' FP.Core.b64.qmin = _
    rw [h2]
    show 1 * 2 ^ (FP.Core.b64.qmin - FP.Core.b64.qmin).toNat = 1
    rw [Int.sub_self]
    rfl
  have l2 := FP.Core.zmag_roundRatio_ge FP.Core.good_b64 (s := true) (A := FP.Core.inUnits cy qy (min qx qy) - FP.Core.inUnits cx qx (min qx qy)) (B := 1) (e := min qx qy) (e0 := FP.Core.b64.qmin) (V := FP.Core.round FP.Core.b64 (.fin false 1 FP.Core.b64.qmin)) (by decide) (FP.Core.round_fits FP.Core.good_b64 _) (Int.le_refl _) (by omega) (by
    rw [e2, hin, Int.sub_self]
    show 1 * 1 * 1 ≤ _
    omega)
  rw [e2] at l2
  have l3 : 1 ≤ FP.Core.zmag FP.Core.b64 (FP.Core.val64 (FP.dsub x y)) := by rw [hv]; exact l2
  rintro ⟨s, q, e⟩
  rw [e] at l3
  have l4 : FP.Core.zmag FP.Core.b64 (FP.Core.Datum.fin s 0 q) = 0 := by
    show FP.Core.inUnits 0 q FP.Core.b64.qmin = 0
    unfold FP.Core.inUnits
    exact Nat.zero_mul _
  omega
theorem gap_dP {a b c d : Nat} {x y : UInt64} (hx : dP a b x) (hy : dP c d y) (hb : b < 2 ^ 53) : gOK (FP.dsub x y) := by
  rcases Nat.lt_or_ge (fM x) (fM y) with q | q
  · exact ⟨vf_sub hx.fin hy.fin, fun z => absurd (FP.Core.zero_iff.mp z) (dsub_nz hx hy q)⟩
  · exact gOK_dP (dP_sub (lo := 0) (hx.wk (Nat.zero_le _) (Nat.le_refl _)) (hy.wk (Nat.zero_le _) (Nat.le_refl _)) (by omega) hb).1
theorem gap_ok {M : tM} (ho : okM M) {nb : Nat} (hN : okN nb M) {i : Nat} (hi : i < mO M) (hs : oState (mod M i) ≠ 0) : ∀ j, j < (mst M (oS (mod M i))).1 → gOK (fGap M i j) := fun j hj => gap_dP (dP_body (ho_pc ho hi).1 ((ho_pc ho hi).2 j hj)) (((hN.2.2.2 i hi).2 hs) j hj) (by omega)
