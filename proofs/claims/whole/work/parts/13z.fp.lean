/-! doubles that aren't negative: what they are worth, in 64ths of one -/
section FPA
theorem fg1 (l u k d : Nat) : l * u * k * (d * u) = (l * d) * (u * u * k) := by ac_rfl
theorem fg2 (a u k : Nat) : (a * 64) * (u * u * k) = (a * u) * (k * (64 * u)) := by ac_rfl
theorem fg3 (n u : Nat) : n * (64 * u) = 64 * n * u := by ac_rfl
theorem fg4 (h c u k : Nat) : (h * c) * (u * u * k) = h * u * k * (c * u) := by ac_rfl
def uU : Nat := 2 ^ 1068
theorem uU_pos : 0 < uU := Nat.two_pow_pos _
theorem one64_uU : FP.Core.one64 = 64 * uU := by
  unfold FP.Core.one64 uU
  rw [show (1074 : Nat) = 6 + 1068 from rfl, Nat.pow_add]
/-- its magnitude in the least units -/
abbrev fM (x : UInt64) : Nat := FP.Core.zmag FP.Core.b64 (FP.Core.val64 x)
/-- a number that isn't negative, between lo and hi 64ths -/
def dP (lo hi : Nat) (x : UInt64) : Prop := (∃ c q, FP.Core.val64 x = .fin false c q) ∧ lo * uU ≤ fM x ∧ fM x ≤ hi * uU
theorem dP.fin {lo hi : Nat} {x : UInt64} (h : dP lo hi x) : FP.Core.DFin x := by
  obtain ⟨⟨c, q, h⟩, -⟩ := h
  exact ⟨false, c, q, h⟩
theorem dP.nn {lo hi : Nat} {x : UInt64} (h : dP lo hi x) : FP.Core.dIsNaN x = false := h.fin.notNaN
theorem dP.wk {lo hi lo' hi' : Nat} {x : UInt64} (h : dP lo hi x) (h1 : lo' ≤ lo) (h2 : hi ≤ hi') : dP lo' hi' x :=
  ⟨h.1, Nat.le_trans (Nat.mul_le_mul_right _ h1) h.2.1, Nat.le_trans h.2.2 (Nat.mul_le_mul_right _ h2)⟩
theorem vf_of {x : UInt64} (h : FP.Core.dIsNaN x = false) : vf_n64 x := by
  unfold vf_n64
  have h1 := (FP.Core.ne_nan x).mp ((FP.Core.notNaN_iff x).mp h)
  rw [UInt64.le_iff_toNat_le, FP.Core.mask_toNat]
  exact h1
theorem vf_to {x : UInt64} (h : vf_n64 x) : FP.Core.dIsNaN x = false := by
  unfold vf_n64 at h
  rw [UInt64.le_iff_toNat_le, FP.Core.mask_toNat] at h
  exact (FP.Core.notNaN_iff x).mpr ((FP.Core.ne_nan x).mpr h)
/-- a number of 64ths is one of the format -/
theorem fRep (n : Nat) (h : n < 2 ^ 53) : ∃ V, FP.Core.fits FP.Core.b64 V ∧ V ≠ .nan ∧ FP.Core.zmag FP.Core.b64 V = n * uU := by
  obtain ⟨c', q', h1, h2⟩ := FP.Core.round_exact FP.Core.good_b64 false (c := n) (q := -6) h (by decide) (by decide)
  refine ⟨FP.Core.round FP.Core.b64 (.fin false n (-6)), FP.Core.round_fits FP.Core.good_b64 _, by rw [h1]; exact FP.Core.Datum.noConfusion, ?_⟩
  rw [h1]
  show FP.Core.inUnits c' q' FP.Core.b64.qmin = _
  rw [h2]
  show n * 2 ^ (-6 - FP.Core.b64.qmin).toNat = n * uU
  rw [show (-6 - FP.Core.b64.qmin).toNat = 1068 by decide]
  rfl
theorem top_uU : 2 ^ 53 * uU < FP.Core.b64.tails * 2 ^ (FP.Core.b64.exps - 2) := by
  unfold uU
  decide +kernel
/-- a rounded magnitude within bounds is a number within them -/
theorem dP_of {x : UInt64} {A B lo hi : Nat} {e e0 : Int} (hx : FP.Core.val64 x = FP.Core.roundRatio FP.Core.b64 false A B e) (hB : 0 < B) (h0 : e0 ≤ FP.Core.b64.qmin) (he : e0 ≤ e) (hhi : hi < 2 ^ 53)
    (h1 : lo * uU * 2 ^ (FP.Core.b64.qmin - e0).toNat * B ≤ FP.Core.inUnits A e e0) (h2 : FP.Core.inUnits A e e0 ≤ hi * uU * 2 ^ (FP.Core.b64.qmin - e0).toNat * B) : dP lo hi x := by
  have hlo : lo ≤ hi := by
    have h3 := Nat.le_trans h1 h2
    have hp : 0 < uU * 2 ^ (FP.Core.b64.qmin - e0).toNat * B := Nat.mul_pos (Nat.mul_pos uU_pos (Nat.two_pow_pos _)) hB
    rw [Nat.mul_assoc, Nat.mul_assoc, Nat.mul_assoc hi, Nat.mul_assoc hi, ← Nat.mul_assoc uU] at h3
    exact Nat.le_of_mul_le_mul_right h3 hp
  obtain ⟨V1, f1, n1, e1⟩ := fRep hi hhi
  obtain ⟨V2, f2, n2, e2⟩ := fRep lo (by omega)
  have l1 := FP.Core.zmag_roundRatio_le FP.Core.good_b64 (s := false) (A := A) (B := B) (e := e) hB f1 n1 h0 he (by rw [e1]; exact h2)
  have l2 := FP.Core.zmag_roundRatio_ge FP.Core.good_b64 (s := false) (A := A) (B := B) (e := e) hB f2 h0 he (by rw [e2]; exact h1)
  rw [← hx, e1] at l1
  rw [← hx, e2] at l2
  refine ⟨?_, l2, l1⟩
  have hs := FP.Core.sgn_roundRatio FP.Core.b64 false A B e
  have hn := FP.Core.roundRatio_ne_nan FP.Core.b64 false A B e
  rw [← hx] at hs hn
  cases hv : FP.Core.val64 x with
  | nan => exact absurd hv hn
  | inf s =>
    exfalso
    have l1' : FP.Core.zmag FP.Core.b64 (FP.Core.val64 x) ≤ hi * uU := l1
    rw [hv] at l1'
    have h9 := top_uU
    have h8 : hi * uU ≤ 2 ^ 53 * uU := Nat.mul_le_mul_right _ (Nat.le_of_lt hhi)
    exact absurd (Nat.lt_of_le_of_lt (Nat.le_trans l1' h8) h9) (Nat.lt_irrefl _)
  | fin s c q =>
    rw [hv] at hs
    have hs' : s = false := hs
    subst hs'
    exact ⟨c, q, rfl⟩
theorem fM_fin {x : UInt64} {c : Nat} {q : Int} (h : FP.Core.val64 x = .fin false c q) : fM x = c * 2 ^ (q - FP.Core.b64.qmin).toNat := by
  show FP.Core.zmag FP.Core.b64 (FP.Core.val64 x) = _
  rw [h]
  rfl
theorem fits_q {x : UInt64} {s : Bool} {c : Nat} {q : Int} (h : FP.Core.val64 x = .fin s c q) : FP.Core.b64.qmin ≤ q ∧ q ≤ FP.Core.b64.qmax := by
  have := FP.Core.val64_fits x
  rw [h] at this
  exact ⟨this.2.1, this.2.2.1⟩
theorem dP_add {a b c d : Nat} {x y : UInt64} (hx : dP a b x) (hy : dP c d y) (h : b + d < 2 ^ 53) : dP (a + c) (b + d) (FP.dadd x y) := by
  obtain ⟨⟨cx, qx, ex⟩, x1, x2⟩ := hx
  obtain ⟨⟨cy, qy, ey⟩, y1, y2⟩ := hy
  have hv : FP.Core.val64 (FP.dadd x y) = FP.Core.round FP.Core.b64 (FP.Core.exactSum (.fin false cx qx) (.fin false cy qy)) := by
    rw [← ex, ← ey]; exact FP.Core.val64_dadd x y
  have fx := fits_q ex
  have fy := fits_q ey
  have mx := fM_fin ex
  have my := fM_fin ey
  have hs : FP.Core.exactSum (.fin false cx qx) (.fin false cy qy) = .fin false (FP.Core.inUnits cx qx (min qx qy) + FP.Core.inUnits cy qy (min qx qy)) (min qx qy) := by
    show FP.Core.Datum.fin (FP.Core.sumSign false false _) _ _ = _
    have e1 : FP.Core.sumUnits false cx qx false cy qy (min qx qy) = ((FP.Core.inUnits cx qx (min qx qy) + FP.Core.inUnits cy qy (min qx qy) : Nat) : Int) := by
      show FP.Core.signed false _ + FP.Core.signed false _ = _
      unfold FP.Core.signed
      simp
    rw [e1]
    congr 1
    · unfold FP.Core.sumSign
      split
      · rfl
      · exact decide_eq_false (by omega)
  rw [hs] at hv
  have hin : FP.Core.inUnits (FP.Core.inUnits cx qx (min qx qy) + FP.Core.inUnits cy qy (min qx qy)) (min qx qy) FP.Core.b64.qmin = fM x + fM y := by
    rw [mx, my]
    unfold FP.Core.inUnits
    rw [Nat.add_mul]
    congr 1
    · rw [Nat.mul_assoc, ← Nat.pow_add]; congr 2; omega
    · rw [Nat.mul_assoc, ← Nat.pow_add]; congr 2; omega
  refine dP_of (B := 1) (e0 := FP.Core.b64.qmin) hv (by decide) (Int.le_refl _) (by omega) h ?_ ?_
  · rw [hin, Int.sub_self]
    show _ * 1 * 1 ≤ _
    rw [Nat.add_mul]; omega
  · rw [hin, Int.sub_self]
    show _ ≤ _ * 1 * 1
    rw [Nat.add_mul]; omega
/-- a difference that isn't negative -/
theorem dP_sub {b d : Nat} {x y : UInt64} {lo : Nat} (hx : dP 0 b x) (hy : dP 0 d y) (hxy : fM y + lo * uU ≤ fM x) (h : b < 2 ^ 53) : dP lo b (FP.dsub x y) ∧ fM (FP.dsub x y) ≤ fM x := by
  obtain ⟨⟨cx, qx, ex⟩, x1, x2⟩ := id hx
  obtain ⟨⟨cy, qy, ey⟩, y1, y2⟩ := id hy
  have hv : FP.Core.val64 (FP.dsub x y) = FP.Core.round FP.Core.b64 (FP.Core.exactSum (.fin false cx qx) (.fin true cy qy)) := by
    have := FP.Core.val64_dsub x y
    rw [ex, ey] at this
    exact this
  have fx := fits_q ex
  have fy := fits_q ey
  have mx := fM_fin ex
  have my := fM_fin ey
  have hin0 : FP.Core.inUnits cx qx (min qx qy) * 2 ^ (min qx qy - FP.Core.b64.qmin).toNat = fM x := by
    rw [mx]; unfold FP.Core.inUnits
    rw [Nat.mul_assoc, ← Nat.pow_add]; congr 2; omega
  have hin1 : FP.Core.inUnits cy qy (min qx qy) * 2 ^ (min qx qy - FP.Core.b64.qmin).toNat = fM y := by
    rw [my]; unfold FP.Core.inUnits
    rw [Nat.mul_assoc, ← Nat.pow_add]; congr 2; omega
  have hle : FP.Core.inUnits cy qy (min qx qy) ≤ FP.Core.inUnits cx qx (min qx qy) := by
    have hp := Nat.two_pow_pos (min qx qy - FP.Core.b64.qmin).toNat
    refine Nat.le_of_mul_le_mul_right ?_ hp
    rw [hin0, hin1]
    omega
  have hs : FP.Core.exactSum (.fin false cx qx) (.fin true cy qy) = .fin false (FP.Core.inUnits cx qx (min qx qy) - FP.Core.inUnits cy qy (min qx qy)) (min qx qy) := by
    show FP.Core.Datum.fin (FP.Core.sumSign false true _) _ _ = _
    have e1 : FP.Core.sumUnits false cx qx true cy qy (min qx qy) = ((FP.Core.inUnits cx qx (min qx qy) - FP.Core.inUnits cy qy (min qx qy) : Nat) : Int) := by
      show FP.Core.signed false _ + FP.Core.signed true _ = _
      unfold FP.Core.signed
      simp
      omega
    rw [e1]
    congr 1
    · unfold FP.Core.sumSign
      split
      · rfl
      · exact decide_eq_false (by omega)
  rw [hs] at hv
  have hin : FP.Core.inUnits (FP.Core.inUnits cx qx (min qx qy) - FP.Core.inUnits cy qy (min qx qy)) (min qx qy) FP.Core.b64.qmin = fM x - fM y := by
    rw [← hin0, ← hin1, ← Nat.sub_mul]
    rfl
  refine ⟨dP_of (B := 1) (e0 := FP.Core.b64.qmin) hv (by decide) (Int.le_refl _) (by omega) h ?_ ?_, ?_⟩
  · rw [hin, Int.sub_self]
    show _ * 1 * 1 ≤ _
    omega
  · rw [hin, Int.sub_self]
    show _ ≤ _ * 1 * 1
    omega
  · show FP.Core.zmag FP.Core.b64 (FP.Core.val64 (FP.dsub x y)) ≤ FP.Core.zmag FP.Core.b64 (FP.Core.val64 x)
    rw [hv]
    refine FP.Core.zmag_roundRatio_le FP.Core.good_b64 (by decide) (FP.Core.val64_fits x) hx.fin.ne_nan (Int.le_refl _) (by omega) ?_
    rw [hin, Int.sub_self]
    show _ ≤ _ * 1 * 1
    rw [Nat.mul_one, Nat.mul_one]
    exact Nat.sub_le _ _
theorem dP_mul {a b c d lo hi : Nat} {x y : UInt64} (hx : dP a b x) (hy : dP c d y) (h1 : lo * 64 ≤ a * c) (h2 : b * d ≤ hi * 64) (h : hi < 2 ^ 53) : dP lo hi (FP.dmul x y) := by
  obtain ⟨⟨cx, qx, ex⟩, x1, x2⟩ := hx
  obtain ⟨⟨cy, qy, ey⟩, y1, y2⟩ := hy
  have hv : FP.Core.val64 (FP.dmul x y) = FP.Core.round FP.Core.b64 (.fin false (cx * cy) (qx + qy)) := by
    have := FP.Core.val64_dmul x y
    rw [ex, ey] at this
    exact this
  have fx := FP.Core.val64_fits x
  have fy := FP.Core.val64_fits y
  rw [ex] at fx
  rw [ey] at fy
  obtain ⟨-, p2, p3⟩ := FP.Core.product_units fx fy
  have mx : FP.Core.zmag FP.Core.b64 (.fin false cx qx) = fM x := by show _ = FP.Core.zmag _ _; rw [ex]
  have my : FP.Core.zmag FP.Core.b64 (.fin false cy qy) = fM y := by show _ = FP.Core.zmag _ _; rw [ey]
  rw [mx, my] at p3
  have e64 : 2 ^ (FP.Core.b64.qmin - 2 * FP.Core.b64.qmin).toNat = 64 * uU := by
    rw [← one64_uU, ← FP.Core.pow_qmin64]
    congr 1
  refine dP_of (B := 1) (e0 := 2 * FP.Core.b64.qmin) hv (by decide) (by decide) p2 h ?_ ?_
  · rw [p3, e64, Nat.mul_one]
    refine Nat.le_trans ?_ (Nat.mul_le_mul x1 y1)
    calc lo * uU * (64 * uU) = (lo * 64) * (uU * uU) := Nat.mul_mul_mul_comm _ _ _ _
      _ ≤ (a * c) * (uU * uU) := Nat.mul_le_mul_right _ h1
      _ = a * uU * (c * uU) := Nat.mul_mul_mul_comm _ _ _ _
  · rw [p3, e64, Nat.mul_one]
    refine Nat.le_trans (Nat.mul_le_mul x2 y2) ?_
    calc b * uU * (d * uU) = (b * d) * (uU * uU) := Nat.mul_mul_mul_comm _ _ _ _
      _ ≤ (hi * 64) * (uU * uU) := Nat.mul_le_mul_right _ h2
      _ = hi * uU * (64 * uU) := Nat.mul_mul_mul_comm _ _ _ _
theorem dP_div {a b c d lo hi : Nat} {x y : UInt64} (hx : dP a b x) (hy : dP c d y) (hc : 0 < c) (h1 : lo * d ≤ a * 64) (h2 : b * 64 ≤ hi * c) (h : hi < 2 ^ 53) : dP lo hi (FP.ddiv x y) := by
  obtain ⟨⟨cx, qx, ex⟩, x1, x2⟩ := hx
  obtain ⟨⟨cy, qy, ey⟩, y1, y2⟩ := hy
  have fx := fits_q ex
  have fy := fits_q ey
  have mx := fM_fin ex
  have my := fM_fin ey
  have hq1 : FP.Core.b64.qmin = -1074 := by decide
  have hq2 : FP.Core.b64.qmax = 971 := by decide
  have hcy : 0 < cy := by
    rcases Nat.eq_zero_or_pos cy with z | z
    · rw [z, Nat.zero_mul] at my
      have : 0 < c * uU := Nat.mul_pos hc uU_pos
      omega
    · exact z
  have hv : FP.Core.val64 (FP.ddiv x y) = FP.Core.roundRatio FP.Core.b64 false cx cy (qx - qy) := by
    have := FP.Core.val64_ddiv x y
    rw [ex, ey] at this
    rw [show FP.Core.val64 (FP.ddiv x y) = _ from this]
    show (if cy = 0 then _ else _) = _
    rw [if_neg (by omega)]
    rfl
  -- both sides times 2 ^ (qy - qmin)
  have hk : FP.Core.inUnits cx (qx - qy) (-4000) * 2 ^ (qy - FP.Core.b64.qmin).toNat = fM x * 2 ^ 4000 := by
    rw [mx]
    unfold FP.Core.inUnits
    rw [Nat.mul_assoc, ← Nat.pow_add, Nat.mul_assoc, ← Nat.pow_add]
    congr 2
    omega
  have e4 : (2 : Nat) ^ (FP.Core.b64.qmin - (-4000)).toNat * (64 * uU) = 2 ^ 4000 := by
    rw [← one64_uU, ← FP.Core.pow_qmin64, ← Nat.pow_add]
    congr 1
  have hp := Nat.two_pow_pos (qy - FP.Core.b64.qmin).toNat
  have p4 : 0 < (2 : Nat) ^ 4000 := Nat.two_pow_pos _
  generalize hP : (2 : Nat) ^ 4000 = P4 at hk e4 p4
  generalize hK : (2 : Nat) ^ (FP.Core.b64.qmin - (-4000)).toNat = K4 at e4
  refine dP_of (B := cy) (e0 := -4000) hv hcy (by omega) (by omega) h ?_ ?_
  · refine Nat.le_of_mul_le_mul_right ?_ hp
    rw [hk, hK, Nat.mul_assoc, ← my, ← e4]
    calc lo * uU * K4 * fM y ≤ lo * uU * K4 * (d * uU) := Nat.mul_le_mul_left _ y2
      _ = (lo * d) * (uU * uU * K4) := fg1 _ _ _ _
      _ ≤ (a * 64) * (uU * uU * K4) := Nat.mul_le_mul_right _ h1
      _ = (a * uU) * (K4 * (64 * uU)) := fg2 _ _ _
      _ ≤ fM x * (K4 * (64 * uU)) := Nat.mul_le_mul_right _ x1
  · refine Nat.le_of_mul_le_mul_right ?_ hp
    rw [hk, hK, Nat.mul_assoc, ← my, ← e4]
    calc fM x * (K4 * (64 * uU)) ≤ (b * uU) * (K4 * (64 * uU)) := Nat.mul_le_mul_right _ x2
      _ = (b * 64) * (uU * uU * K4) := (fg2 _ _ _).symm
      _ ≤ (hi * c) * (uU * uU * K4) := Nat.mul_le_mul_right _ h2
      _ = hi * uU * K4 * (c * uU) := fg4 _ _ _ _
      _ ≤ hi * uU * K4 * fM y := Nat.mul_le_mul_left _ y1
theorem dP_i2d {n : Nat} (h : n < 2 ^ 31) : dP (64 * n) (64 * n) (FP.i2d (nI n)) := by
  have hv : FP.Core.val64 (FP.i2d (nI n)) = FP.Core.roundRatio FP.Core.b64 false n 1 0 := by
    have := FP.Core.val64_i2d (nI n)
    rw [nI_toInt h] at this
    exact this
  have e1 : FP.Core.inUnits n 0 FP.Core.b64.qmin = 64 * n * uU := by
    unfold FP.Core.inUnits
    rw [show (0 - FP.Core.b64.qmin).toNat = (-FP.Core.b64.qmin).toNat by omega, FP.Core.pow_qmin64, one64_uU]
    exact fg3 _ _
  refine dP_of (B := 1) (e0 := FP.Core.b64.qmin) hv (by decide) (Int.le_refl _) (by decide) (by omega) ?_ ?_
  · rw [e1, Int.sub_self]
    exact Nat.le_of_eq (by show _ * 1 * 1 = _; omega)
  · rw [e1, Int.sub_self]
    exact Nat.le_of_eq (by show _ = _ * 1 * 1; omega)
/-- the order of two of them -/
theorem dP_cmp {a b c d : Nat} {x y : UInt64} (hx : dP a b x) (hy : dP c d y) : FP.dcmp x y = some (compare (fM x) (fM y)) := by
  have h := FP.Core.order_zval FP.Core.good_b64 (FP.Core.val64_fits x) (FP.Core.val64_fits y) hx.fin.ne_nan hy.fin.ne_nan
  obtain ⟨⟨cx, qx, ex⟩, -⟩ := hx
  obtain ⟨⟨cy, qy, ey⟩, -⟩ := hy
  have z1 : FP.Core.zval FP.Core.b64 (FP.Core.val64 x) = (fM x : Int) := by
    show FP.Core.signed (FP.Core.sgn (FP.Core.val64 x)) (FP.Core.zmag FP.Core.b64 (FP.Core.val64 x)) = ((FP.Core.zmag FP.Core.b64 (FP.Core.val64 x) : Nat) : Int)
    rw [show FP.Core.sgn (FP.Core.val64 x) = false by rw [ex]; rfl]
    rfl
  have z2 : FP.Core.zval FP.Core.b64 (FP.Core.val64 y) = (fM y : Int) := by
    show FP.Core.signed (FP.Core.sgn (FP.Core.val64 y)) (FP.Core.zmag FP.Core.b64 (FP.Core.val64 y)) = ((FP.Core.zmag FP.Core.b64 (FP.Core.val64 y) : Nat) : Int)
    rw [show FP.Core.sgn (FP.Core.val64 y) = false by rw [ey]; rfl]
    rfl
  rw [z1, z2] at h
  refine (show FP.dcmp x y = FP.Core.order (FP.Core.val64 x) (FP.Core.val64 y) from rfl).trans (h.trans (congrArg some ?_))
  show (if (fM x : Int) < (fM y : Int) then Ordering.lt else if (fM x : Int) = (fM y : Int) then Ordering.eq else Ordering.gt) = (if fM x < fM y then Ordering.lt else if fM x = fM y then Ordering.eq else Ordering.gt)
  by_cases h1 : fM x < fM y
  · rw [if_pos h1, if_pos (Int.ofNat_lt.mpr h1)]
  · rw [if_neg h1, if_neg (fun z => h1 (Int.ofNat_lt.mp z))]
    by_cases h2 : fM x = fM y
    · rw [if_pos h2, if_pos (congrArg _ h2)]
    · rw [if_neg h2, if_neg (fun z => h2 (Int.ofNat_inj.mp z))]
end FPA
