/-! ceil: bits and what they are worth -/
section CEILB
theorem fg5 (a b c : Nat) : a * b * c = b * c * a := by ac_rfl
theorem fg6 (a n u : Nat) : a * n * u = n * (a * u) := by ac_rfl
theorem x_bits {lo hi : Nat} {x : UInt64} (h : dP lo hi x) : x.toNat < 2 ^ 63 ∧ x.toNat / 2 ^ 52 < 2047 ∧ fM x = FP.Core.unitsOf FP.Core.b64 x.toNat := by
  have h1 := (FP.Core.fin_bits x).mp h.fin
  have h2 := FP.Core.sgn_bits h.fin.ne_nan
  obtain ⟨⟨c, q, e⟩, -⟩ := h
  have h3 : decide (2 ^ 63 ≤ x.toNat) = false := by rw [← h2, e]; rfl
  have h4 : x.toNat < 2 ^ 63 := Nat.lt_of_not_le (of_decide_eq_false h3)
  rw [Nat.mod_eq_of_lt h4] at h1
  refine ⟨h4, by omega, ?_⟩
  have h5 := FP.Core.zmag_bits (a := x) (by rw [e]; exact FP.Core.Datum.noConfusion)
  rw [Nat.mod_eq_of_lt h4] at h5
  exact h5
theorem dP_bits {x : UInt64} (h : x.toNat < 2047 * 2 ^ 52) {lo hi : Nat} (h1 : lo * uU ≤ fM x) (h2 : fM x ≤ hi * uU) : dP lo hi x := by
  refine ⟨?_, h1, h2⟩
  have h4 : x.toNat < 2 ^ 63 := by omega
  obtain ⟨s, c, q, e⟩ := (FP.Core.fin_bits x).mpr (by rw [Nat.mod_eq_of_lt h4]; omega)
  have h3 := FP.Core.sgn_bits (a := x) (by rw [e]; exact FP.Core.Datum.noConfusion)
  rw [e, decide_eq_false (Nat.not_le.mpr h4)] at h3
  have h5 : s = false := h3
  subst h5
  exact ⟨c, q, e⟩
theorem fM_of {x : UInt64} (h : x.toNat < 2047 * 2 ^ 52) : fM x = FP.Core.unitsOf FP.Core.b64 x.toNat := by
  have h4 : x.toNat < 2 ^ 63 := by omega
  obtain ⟨s, c, q, e⟩ := (FP.Core.fin_bits x).mpr (by rw [Nat.mod_eq_of_lt h4]; omega)
  have h5 := FP.Core.zmag_bits (a := x) (by rw [e]; exact FP.Core.Datum.noConfusion)
  rw [Nat.mod_eq_of_lt h4] at h5
  exact h5
theorem fM_inj {a b c d : Nat} {x y : UInt64} (hx : dP a b x) (hy : dP c d y) (h : fM x = fM y) : x = y := by
  obtain ⟨-, -, x3⟩ := x_bits hx
  obtain ⟨-, -, y3⟩ := x_bits hy
  rw [x3, y3] at h
  have a1 := (FP.Core.unitsOf_le_iff (f := FP.Core.b64)).mp (Nat.le_of_eq h)
  have a2 := (FP.Core.unitsOf_le_iff (f := FP.Core.b64)).mp (Nat.le_of_eq h.symm)
  exact UInt64.toNat_inj.mp (Nat.le_antisymm a1 a2)
theorem units64 (n : Nat) : FP.Core.unitsOf FP.Core.b64 n = if n < 2 ^ 52 then n else (2 ^ 52 + n % 2 ^ 52) * 2 ^ (n / 2 ^ 52 - 1) := rfl
theorem one_uU : 64 * uU = 2 ^ 1074 := by
  unfold uU
  rw [show (1074 : Nat) = 6 + 1068 from rfl, Nat.pow_add]
/-- below one -/
theorem lt_one {lo hi : Nat} {x : UInt64} (h : dP lo hi x) (hE : x.toNat / 2 ^ 52 < 1023) : fM x < 64 * uU := by
  obtain ⟨-, -, e⟩ := x_bits h
  rw [e, units64, one_uU]
  split
  · rename_i q
    exact Nat.lt_trans q (Nat.pow_lt_pow_right (by decide) (by decide))
  · have h1 : x.toNat % 2 ^ 52 < 2 ^ 52 := Nat.mod_lt _ (by decide)
    have h2 : 2 ^ (x.toNat / 2 ^ 52 - 1) ≤ 2 ^ 1021 := Nat.pow_le_pow_right (by decide) (by omega)
    have h3 : (2 ^ 52 + x.toNat % 2 ^ 52) * 2 ^ (x.toNat / 2 ^ 52 - 1) ≤ (2 ^ 52 + x.toNat % 2 ^ 52) * 2 ^ 1021 := Nat.mul_le_mul_left _ h2
    refine Nat.lt_of_le_of_lt h3 ?_
    rw [show (1074 : Nat) = 53 + 1021 from rfl, Nat.pow_add]
    exact Nat.mul_lt_mul_of_pos_right (by omega) (Nat.two_pow_pos _)
/-- its exponent, where it isn't below one -/
theorem exp_lt {lo hi : Nat} {x : UInt64} (h : dP lo hi x) (hh : hi < 2 ^ 36) : x.toNat / 2 ^ 52 < 1075 := by
  obtain ⟨-, -, e⟩ := x_bits h
  refine Nat.lt_of_not_le fun q => ?_
  have h1 := h.2.2
  rw [e, units64, if_neg (by omega)] at h1
  have h2 : 2 ^ 1074 ≤ 2 ^ (x.toNat / 2 ^ 52 - 1) := Nat.pow_le_pow_right (by decide) (by omega)
  have h3 : 2 ^ 52 * 2 ^ 1074 ≤ (2 ^ 52 + x.toNat % 2 ^ 52) * 2 ^ (x.toNat / 2 ^ 52 - 1) := Nat.mul_le_mul (Nat.le_add_right _ _) h2
  have h4 : hi * uU < 2 ^ 36 * uU := Nat.mul_lt_mul_of_pos_right hh uU_pos
  have h5 : 2 ^ 36 * uU ≤ 2 ^ 52 * 2 ^ 1074 := by rw [← one_uU, ← Nat.mul_assoc]; exact Nat.mul_le_mul_right _ (by decide)
  exact absurd (Nat.lt_of_lt_of_le h4 (Nat.le_trans h5 (Nat.le_trans h3 h1))) (Nat.lt_irrefl _)
/-- what the cleared bits are worth -/
theorem clr_worth {lo hi : Nat} {x d : UInt64} (h : dP lo hi x) {k : Nat} (hk : k < 52) (hE : x.toNat / 2 ^ 52 = 1023 + k) (hd : d.toNat = x.toNat / 2 ^ (52 - k) * 2 ^ (52 - k)) : fM d = fM x / (64 * uU) * (64 * uU) ∧ (x.toNat % 2 ^ (52 - k) = 0 ↔ fM x = fM x / (64 * uU) * (64 * uU)) ∧ d.toNat ≤ x.toNat := by
  obtain ⟨x1, x2, e⟩ := x_bits h
  have hle : d.toNat ≤ x.toNat := by rw [hd]; exact Nat.div_mul_le_self _ _
  have hbig : 2 ^ 52 ≤ x.toNat := by omega
  obtain ⟨P, hP⟩ : ∃ P, P = 2 ^ (52 - k) := ⟨_, rfl⟩
  obtain ⟨K, hK⟩ : ∃ K, K = 2 ^ k := ⟨_, rfl⟩
  have hP0 : 0 < P := by rw [hP]; exact Nat.two_pow_pos _
  have hK0 : 0 < K := by rw [hK]; exact Nat.two_pow_pos _
  have hPK : K * P = 2 ^ 52 := by rw [hP, hK, ← Nat.pow_add]; congr 1; omega
  have hU : 64 * uU = P * 2 ^ (1022 + k) := by rw [one_uU, hP, ← Nat.pow_add]; congr 1; omega
  rw [← hP] at hd ⊢
  generalize hF : x.toNat % 2 ^ 52 = F at *
  have hFlt : F < 2 ^ 52 := by rw [← hF]; exact Nat.mod_lt _ (by decide)
  have hx : x.toNat = ((1023 + k) * K + F / P) * P + F % P := by
    have a1 := Nat.div_add_mod x.toNat (2 ^ 52)
    rw [hE, hF, ← hPK] at a1
    have a2 := Nat.div_add_mod F P
    rw [← a1, Nat.add_mul]
    have a3 : K * P * (1023 + k) = (1023 + k) * K * P := by ac_rfl
    have a4 : F / P * P = P * (F / P) := Nat.mul_comm _ _
    omega
  have hF0 : F % P < P := Nat.mod_lt _ hP0
  have hxd : x.toNat / P = (1023 + k) * K + F / P := by
    rw [hx, Nat.mul_comm _ P, Nat.mul_add_div hP0, Nat.div_eq_of_lt hF0, Nat.add_zero]
  have hxm : x.toNat % P = F % P := by
    rw [hx, Nat.mul_comm _ P, Nat.mul_add_mod, Nat.mod_mod]
  rw [hxd] at hd
  have hFK : F / P < K := by
    rw [Nat.div_lt_iff_lt_mul hP0, hPK]; exact hFlt
  have hd2 : d.toNat = 2 ^ 52 * (1023 + k) + F / P * P := by rw [hd, ← hPK, Nat.add_mul, fg5]
  have hlow : F / P * P < 2 ^ 52 := by rw [← hPK]; exact Nat.mul_lt_mul_of_pos_right hFK hP0
  have hdd : d.toNat / 2 ^ 52 = 1023 + k := by rw [hd2, Nat.mul_add_div (by decide), Nat.div_eq_of_lt hlow, Nat.add_zero]
  have hdm : d.toNat % 2 ^ 52 = F / P * P := by rw [hd2, Nat.mul_add_mod, Nat.mod_eq_of_lt hlow]
  have fx : fM x = (2 ^ 52 + F) * 2 ^ (1022 + k) := by
    rw [e, units64, if_neg (by omega), hF, hE, show 1023 + k - 1 = 1022 + k by omega]
  have fd : fM d = (2 ^ 52 + F / P * P) * 2 ^ (1022 + k) := by
    rw [fM_of (by omega), units64, if_neg (by omega), hdm, hdd, show 1023 + k - 1 = 1022 + k by omega]
  have hp2 : 0 < 2 ^ (1022 + k) := Nat.two_pow_pos _
  have hq : fM x / (64 * uU) = K + F / P := by
    rw [fx, hU, Nat.mul_div_mul_right _ _ hp2, ← hPK, Nat.mul_comm K P, Nat.mul_add_div hP0]
  have hv : fM x / (64 * uU) * (64 * uU) = (2 ^ 52 + F / P * P) * 2 ^ (1022 + k) := by
    rw [hq, hU, ← Nat.mul_assoc, Nat.add_mul, hPK]
  refine ⟨fd.trans hv.symm, ?_, hle⟩
  rw [hv, fx, hxm]
  have a2 := Nat.div_add_mod F P
  rw [Nat.mul_comm] at a2
  constructor
  · intro z
    rw [z, Nat.add_zero] at a2
    rw [a2]
  · intro z
    have := Nat.eq_of_mul_eq_mul_right hp2 z
    omega
/-- bits cleared, bits asked for -/
theorem clr_toNat (x : UInt64) {j : Nat} : (x.toInt64 &&& (lN (2 ^ j - 1) ^^^ -1)).toUInt64.toNat = x.toNat / 2 ^ j * 2 ^ j := by
  have h0 : (x.toInt64 &&& (lN (2 ^ j - 1) ^^^ -1)).toUInt64 = x &&& (UInt64.ofNat (2 ^ j - 1) ^^^ (-1 : Int64).toUInt64) := rfl
  rw [h0, UInt64.toNat_and, UInt64.toNat_xor, show (-1 : Int64).toUInt64.toNat = 2 ^ 64 - 1 by decide]
  have hx := x.toNat_lt
  refine Nat.eq_of_testBit_eq fun i => ?_
  rw [Nat.testBit_and, Nat.testBit_xor, Nat.testBit_two_pow_sub_one, UInt64.toNat_ofNat', Nat.mul_comm, Nat.testBit_two_pow_mul, Nat.testBit_div_two_pow]
  rw [Nat.testBit_mod_two_pow, Nat.testBit_two_pow_sub_one]
  by_cases hi : i < 64
  · by_cases hj : i < j
    · simp [hi, hj, Nat.not_le.mpr hj]
    · simp [hi, hj, Nat.le_of_not_lt hj, Nat.sub_add_cancel (Nat.le_of_not_lt hj)]
  · have hz : x.toNat.testBit i = false := Nat.testBit_lt_two_pow (Nat.lt_of_lt_of_le hx (Nat.pow_le_pow_right (by decide) (Nat.le_of_not_lt hi)))
    rw [hz]
    by_cases hj : i < j
    · simp [Nat.not_le.mpr hj]
    · simp [Nat.le_of_not_lt hj, Nat.sub_add_cancel (Nat.le_of_not_lt hj), hz]
theorem msk_toNat (x : UInt64) {j : Nat} (hj : j < 64) : (lN (2 ^ j - 1) &&& x.toInt64).toUInt64.toNat = x.toNat % 2 ^ j := by
  have h0 : (lN (2 ^ j - 1) &&& x.toInt64).toUInt64 = UInt64.ofNat (2 ^ j - 1) &&& x := rfl
  have h1 : 2 ^ j ≤ 2 ^ 63 := Nat.pow_le_pow_right (by decide) (by omega)
  have hp := Nat.two_pow_pos j
  rw [h0, UInt64.toNat_and, UInt64.toNat_ofNat', Nat.mod_eq_of_lt (by omega), Nat.and_comm, Nat.and_two_pow_sub_one_eq_mod]
theorem msk_zero (x : UInt64) {j : Nat} (hj : j < 64) : lg_cmp (lN (2 ^ j - 1) &&& x.toInt64) 0 = 0 ↔ x.toNat % 2 ^ j = 0 := by
  have e : (lN (2 ^ j - 1) &&& x.toInt64) = 0 ↔ x.toNat % 2 ^ j = 0 := by
    rw [← msk_toNat x hj]
    constructor
    · intro z; rw [z]; rfl
    · intro z
      have h : (lN (2 ^ j - 1) &&& x.toInt64).toUInt64 = 0 := UInt64.toNat_inj.mp z
      exact congrArg UInt64.toInt64 h
  rw [← e]
  unfold lg_cmp
  constructor
  · intro z
    by_cases q : (lN (2 ^ j - 1) &&& x.toInt64) = 0
    · exact q
    · rw [if_neg q] at z
      split at z <;> exact absurd z (by decide)
  · intro z
    rw [z]
    decide
theorem msk_tab : ∀ k : Fin 52, (4503599627370495 : Int64) >>> ((nI k.val).toInt64 &&& 63) = lN (2 ^ (52 - k.val) - 1) := by decide +kernel
/-- the exponent, as the member asks it -/
def fXp (x : UInt64) : Int32 := ((x.toInt64 &&& 9218868437227405312) >>> ((52 : Int32).toInt64 &&& 63) - 1023).toInt32
theorem fXp_low : ∀ E : Fin 2048, (lN E.val - 1023).toInt32 = nI E.val - 1023 := by decide +kernel
theorem fXp_eq {x : UInt64} (h : x.toNat < 2 ^ 63) : fXp x = nI (x.toNat / 2 ^ 52) - 1023 := by
  have hE : x.toNat / 2 ^ 52 < 2048 := by omega
  have h1 : (x.toInt64 &&& 9218868437227405312) >>> ((52 : Int32).toInt64 &&& 63) = lN (x.toNat / 2 ^ 52) := by
    have hb : (x.toInt64 &&& 9218868437227405312).toBitVec.toNat = x.toNat &&& 9218868437227405312 := by
      have h0 : (x.toInt64 &&& 9218868437227405312).toBitVec.toNat = (x &&& 9218868437227405312).toNat := rfl
      rw [h0, UInt64.toNat_and]
      rfl
    have hlt : (x.toNat &&& 9218868437227405312) < 2 ^ 63 := Nat.lt_of_le_of_lt Nat.and_le_left h
    refine Int64.toBitVec.inj (BitVec.eq_of_toNat_eq ?_)
    have h2 : ((x.toInt64 &&& 9218868437227405312) >>> ((52 : Int32).toInt64 &&& 63)).toBitVec = (x.toInt64 &&& 9218868437227405312).toBitVec.sshiftRight 52 := by
      rw [Int64.toBitVec_shiftRight]
      rfl
    rw [h2, BitVec.toNat_sshiftRight_of_msb_false (by rw [BitVec.msb_eq_false_iff_two_mul_lt, hb]; omega), hb]
    have h3 : (lN (x.toNat / 2 ^ 52)).toBitVec.toNat = x.toNat / 2 ^ 52 := by
      show (BitVec.ofNat 64 (x.toNat / 2 ^ 52)).toNat = _
      rw [BitVec.toNat_ofNat, Nat.mod_eq_of_lt (by omega)]
    rw [h3, Nat.shiftRight_eq_div_pow]
    have h4 : (x.toNat &&& 9218868437227405312) / 2 ^ 52 = (x.toNat / 2 ^ 52) &&& (2 ^ 11 - 1) := by
      rw [← Nat.shiftRight_eq_div_pow, Nat.shiftRight_and_distrib, Nat.shiftRight_eq_div_pow, Nat.shiftRight_eq_div_pow]
    rw [h4, Nat.and_two_pow_sub_one_eq_mod, Nat.mod_eq_of_lt hE]
  unfold fXp
  rw [h1]
  exact fXp_low ⟨x.toNat / 2 ^ 52, hE⟩
theorem fXp_tab : ∀ E : Fin 1075, (E.val < 1023 → ¬ 0 ≤ nI E.val - 1023) ∧ (1023 ≤ E.val → nI E.val - 1023 = nI (E.val - 1023)) := by decide +kernel
theorem fXp_neg {x : UInt64} (h : x.toNat < 2 ^ 63) (hE : x.toNat / 2 ^ 52 < 1023) : ¬ 0 ≤ fXp x := by
  rw [fXp_eq h]
  exact (fXp_tab ⟨x.toNat / 2 ^ 52, by omega⟩).1 hE
theorem fXp_pos {x : UInt64} (h : x.toNat < 2 ^ 63) {k : Nat} (hk : k < 52) (hE : x.toNat / 2 ^ 52 = 1023 + k) : fXp x = nI k := by
  rw [fXp_eq h, hE]
  have := (fXp_tab ⟨1023 + k, by omega⟩).2 (Nat.le_add_right _ _)
  rw [Nat.add_sub_cancel_left] at this
  exact this
/-- the cases of the walk -/
theorem fXp_cases {lo hi : Nat} {x : UInt64} (h : dP lo hi x) (hh : hi < 2 ^ 36) : (¬ 0 ≤ fXp x ∧ fM x < 64 * uU) ∨ ∃ k, k < 52 ∧ x.toNat / 2 ^ 52 = 1023 + k ∧ fXp x = nI k := by
  have h1 := exp_lt h hh
  have h2 := (x_bits h).1
  rcases Nat.lt_or_ge (x.toNat / 2 ^ 52) 1023 with q | q
  · exact Or.inl ⟨fXp_neg h2 q, lt_one h q⟩
  · exact Or.inr ⟨x.toNat / 2 ^ 52 - 1023, by omega, by omega, fXp_pos h2 (by omega) (by omega)⟩
theorem fNext_zero {lo hi : Nat} {x : UInt64} (h : dP lo hi x) (hh : hi < 2 ^ 36) (h0 : FP.dcmp x cD0 = some .eq) : x = fNext x := by
  obtain ⟨n, e, -, h1, h2⟩ := fNext_k h hh
  rw [dP_cmp h dP_c0] at h0
  have hz := Nat.compare_eq_eq.mp (Option.some.inj h0)
  have h3 : fM cD0 = 0 := by have := dP_c0.2.2; omega
  have hn : n = 0 := by
    rcases Nat.eq_zero_or_pos n with q | q
    · exact q
    · have : 64 * uU ≤ 64 * n * uU := Nat.mul_le_mul_right _ (by omega)
      omega
  rw [e]
  refine fM_inj h (dP_i2d (n := n) (by omega)) ?_
  rw [fM_i2d (by omega), hz, h3, hn]
  omega
theorem fNext_one {lo hi : Nat} {x : UInt64} (h : dP lo hi x) (hh : hi < 2 ^ 36) (hl : fM x < 64 * uU) (h0 : ¬ FP.dcmp x cD0 = some .eq) : cD1 = fNext x := by
  obtain ⟨n, e, hn, h1, h2⟩ := fNext_k h hh
  have h3 : fM cD0 = 0 := by have := dP_c0.2.2; omega
  have hp : fM x ≠ 0 := fun z => h0 (by rw [dP_cmp h dP_c0, h3, z]; rfl)
  have hu := uU_pos
  have hn1 : n = 1 := by
    rcases (show n = 0 ∨ n = 1 ∨ 2 ≤ n by omega) with q | q | q
    · subst q; omega
    · exact q
    · have : 128 * uU ≤ 64 * n * uU := Nat.mul_le_mul_right _ (by omega)
      omega
  rw [e]
  refine fM_inj dP_c1 (dP_i2d (n := n) (by omega)) ?_
  rw [fM_i2d (by omega), hn1]
  have a := dP_c1.2
  omega
theorem fNext_whole {lo hi : Nat} {x : UInt64} (h : dP lo hi x) (hh : hi < 2 ^ 36) {q : Nat} (hq : fM x = q * (64 * uU)) : x = fNext x := by
  obtain ⟨n, e, hn, h1, h2⟩ := fNext_k h hh
  have hu := uU_pos
  have hm : 64 * n * uU = n * (64 * uU) := fg6 _ _ _
  rw [hq, hm] at h1 h2
  have a1 : q ≤ n := Nat.le_of_mul_le_mul_right h1 (by omega)
  have a2 : n < q + 1 := Nat.lt_of_mul_lt_mul_right (a := 64 * uU) (by rw [Nat.add_mul, Nat.one_mul]; exact h2)
  have a3 : n = q := by omega
  rw [e]
  refine fM_inj h (dP_i2d (n := n) (by omega)) ?_
  rw [fM_i2d (by omega), hq, a3]
  exact (fg6 _ _ _).symm
theorem fNext_up {lo hi : Nat} {x d : UInt64} (h : dP lo hi x) (hh : hi < 2 ^ 36) (hd0 : d.toNat ≤ x.toNat) (hd : fM d = fM x / (64 * uU) * (64 * uU)) (hne : ¬ fM x = fM x / (64 * uU) * (64 * uU)) : FP.dadd d cD1 = fNext x ∧ FP.dIsNaN (FP.dadd d cD1) = false := by
  obtain ⟨n, e, hn, h1, h2⟩ := fNext_k h hh
  have hu := uU_pos
  have hm : 64 * n * uU = n * (64 * uU) := fg6 _ _ _
  have hdm := Nat.div_add_mod (fM x) (64 * uU)
  have hlt := Nat.mod_lt (fM x) (show 0 < 64 * uU by omega)
  generalize hqq : fM x / (64 * uU) = q at *
  have hc : 64 * uU * q = q * (64 * uU) := Nat.mul_comm _ _
  have a1 : q * (64 * uU) < n * (64 * uU) := by omega
  have a2 : n * (64 * uU) < (q + 2) * (64 * uU) := by rw [Nat.add_mul]; omega
  have b1 : q < n := Nat.lt_of_mul_lt_mul_right a1
  have b2 : n < q + 2 := Nat.lt_of_mul_lt_mul_right a2
  have b3 : n = q + 1 := by omega
  have hdd : dP (64 * q) (64 * q) d := by
    have hb := (x_bits h)
    refine dP_bits (by omega) ?_ ?_
    · rw [hd]; exact Nat.le_of_eq (fg6 _ _ _)
    · rw [hd]; exact Nat.le_of_eq (fg6 _ _ _).symm
  have hs := dP_add hdd dP_c1 (by omega)
  refine ⟨?_, by first | exact hs.nn | exact nv_nn (vf_of hs.nn)⟩
  rw [e]
  refine fM_inj hs (dP_i2d (n := n) (by omega)) ?_
  rw [fM_i2d (by omega)]
  have a := hs.2
  rw [b3]
  have : 64 * (q + 1) * uU = (64 * q + 64) * uU := by rw [Nat.mul_add]
  omega
/-- the bits are no signalling NaN's -/
theorem clr_sn {lo hi : Nat} {x : UInt64} (h : dP lo hi x) {b : Int64} (hb : b.toUInt64.toNat ≤ x.toNat) : vn_snl2d b = false := by
  have h1 := x_bits h
  unfold vn_snl2d
  have h2 : ¬ (b.toUInt64 &&& 0x7fffffffffffffff > 0x7ff0000000000000) := by
    intro z
    have h3 : (0x7ff0000000000000 : UInt64) < b.toUInt64 &&& 0x7fffffffffffffff := z
    rw [UInt64.lt_iff_toNat_lt, UInt64.toNat_and] at h3
    have h4 : (b.toUInt64.toNat &&& (0x7fffffffffffffff : UInt64).toNat) ≤ b.toUInt64.toNat := Nat.and_le_left
    have h5 : (0x7ff0000000000000 : UInt64).toNat = 9218868437227405312 := by decide
    omega
  rw [decide_eq_false h2, Bool.false_and]
/-- a number is above nothing times one -/
theorem one_mul_gt {lo hi : Nat} {x : UInt64} (h : dP lo hi x) (hh : hi < 2 ^ 36) (h1 : 64 * uU ≤ fM x) : vf_n64 (FP.dmul cD1 x) ∧ FP.dcmp (FP.dmul cD1 x) cD0 = some .gt := by
  have h2 : dP 64 hi x := ⟨h.1, h1, h.2.2⟩
  have h3 : dP 64 hi (FP.dmul cD1 x) := dP_mul dP_c1 h2 (by omega) (by omega) (by omega)
  refine ⟨vf_of h3.nn, ?_⟩
  rw [dP_cmp h3 dP_c0]
  have a := h3.2.1
  have b := dP_c0.2.2
  have hu := uU_pos
  exact congrArg some (Nat.compare_eq_gt.mpr (by omega))
theorem ge_one {lo hi : Nat} {x : UInt64} (h : dP lo hi x) {k : Nat} (hE : x.toNat / 2 ^ 52 = 1023 + k) : 64 * uU ≤ fM x := by
  obtain ⟨-, -, e⟩ := x_bits h
  rw [e, units64, if_neg (by omega), hE, one_uU, show (1074 : Nat) = 52 + 1022 from rfl, Nat.pow_add]
  exact Nat.mul_le_mul (Nat.le_add_right _ _) (Nat.pow_le_pow_right (by decide) (by omega))
end CEILB
