/-! bounds of the shop's doubles -/
section FPB
def dPb (lo hi : Nat) (x : UInt64) : Bool := match FP.Core.val64 x with
  | .fin false c q => decide (lo * 2 ^ 1068 ≤ c * 2 ^ (q - FP.Core.b64.qmin).toNat) && decide (c * 2 ^ (q - FP.Core.b64.qmin).toNat ≤ hi * 2 ^ 1068)
  | _ => false
theorem dPb_of {lo hi : Nat} {x : UInt64} (h : dPb lo hi x = true) : dP lo hi x := by
  unfold dPb at h
  cases hv : FP.Core.val64 x with
  | nan => rw [hv] at h; cases h
  | inf s => rw [hv] at h; cases h
  | fin s c q =>
    rw [hv] at h
    cases s with
    | true => cases h
    | false =>
      have h' : (decide (lo * 2 ^ 1068 ≤ c * 2 ^ (q - FP.Core.b64.qmin).toNat) && decide (c * 2 ^ (q - FP.Core.b64.qmin).toNat ≤ hi * 2 ^ 1068)) = true := h
      rw [Bool.and_eq_true, decide_eq_true_iff, decide_eq_true_iff] at h'
      rw [← fM_fin hv] at h'
      exact ⟨⟨c, q, hv⟩, h'.1, h'.2⟩
theorem dP_c1 : dP 64 64 cD1 := dPb_of (by decide +kernel)
theorem dP_c3 : dP 192 192 cD3 := dPb_of (by decide +kernel)
theorem dP_c4 : dP 256 256 cD4 := dPb_of (by decide +kernel)
theorem dP_c8 : dP 512 512 cD8 := dPb_of (by decide +kernel)
theorem dP_c64 : dP 4096 4096 cD64 := dPb_of (by decide +kernel)
theorem dP_c100 : dP 6400 6400 cD100 := dPb_of (by decide +kernel)
theorem dP_c2000 : dP 128000 128000 cD2000 := dPb_of (by decide +kernel)
theorem dP_half : dP 32 32 cHalf := dPb_of (by decide +kernel)
theorem dP_quart : dP 16 16 cQuart := dPb_of (by decide +kernel)
theorem dP_c2 : dP 128 128 cD2 := dPb_of (by decide +kernel)
theorem dP_c0 : dP 0 0 cD0 := dPb_of (by decide +kernel)
theorem dP_left {k : Nat} (h : k < 9) : dP 56 64 (fLeft k) := by
  have t : ∀ k : Fin 9, dPb 56 64 (fLeft k.val) = true := by decide +kernel
  exact dPb_of (t ⟨k, h⟩)
theorem dP_left0 : dP 64 64 (fLeft 0) := dPb_of (by decide +kernel)
theorem dP_pace {k : Nat} (h1 : 1 ≤ k) (h : k ≤ 16) : dP 8 128 (FP.f2d (fPace k)) ∧ vf_n64 (FP.f2d (fPace k)) ∧ vf_n32 (FP.fdiv (FP.i2f (nI k)) 1090519040) := by
  have t : ∀ k : Fin 16, dPb 8 128 (FP.f2d (fPace (k.val + 1))) = true ∧ (FP.f2d (fPace (k.val + 1))) &&& 0x7fffffffffffffff ≤ 0x7ff0000000000000 ∧ (FP.fdiv (FP.i2f (nI (k.val + 1))) 1090519040) &&& 0x7fffffff ≤ 0x7f800000 := by decide +kernel
  have := t ⟨k - 1, by omega⟩
  rw [show k - 1 + 1 = k by omega] at this
  exact ⟨dPb_of this.1, this.2.1, this.2.2⟩
theorem dP_part {ms : Nat → Nat} {p : Nat} (h : okMs ms) (hp : okPart p) : dP 400 12800 (fPart ms p) := by
  have h1 := (h (p / 10)).1
  have h2 := (h (p / 10)).2
  have h3 : 50 ≤ ms (p / 10) * (p % 10) := by have := Nat.mul_le_mul h1 hp.2.1; omega
  have h4 : ms (p / 10) * (p % 10) ≤ 1600 := Nat.mul_le_mul h2 hp.2.2
  exact dP_div (dP_i2d (by omega)) dP_c8 (by omega) (by omega) (by omega) (by omega)
theorem fPart_no {ms : Nat → Nat} {p : Nat} (h : okMs ms) (hp : okPart p) : vf_n64 (FP.ddiv (FP.i2d (nI (ms (p / 10) * (p % 10)))) cD8) := vf_of (dP_part h hp).nn
theorem dP_ease {q : Nat} (h : q ≤ 40) : dP 0 640 (fEase q) := dP_div (a := 64 * q) (b := 64 * q) (c := 256) (d := 256) (dP_i2d (by omega)) dP_c4 (Nat.le_of_ble_eq_true rfl) (by rw [Nat.zero_mul]; exact Nat.zero_le _) (by omega) (Nat.le_of_ble_eq_true rfl)
theorem dP_body {ms : Nat → Nat} {pc : tPc} (h : okMs ms) (hp : okPc pc) : dP 400 13440 (fBody ms pc) := (dP_add (dP_part h hp.1) (dP_ease hp.2.2.1) (by omega)).wk (by omega) (by omega)
theorem fBody_no {ms : Nat → Nat} {pc : tPc} (h : okMs ms) (hp : okPc pc) : vf_n64 (FP.dadd (fPart ms pc.1) (fEase pc.2.2.1)) := vf_of (dP_body h hp).nn
theorem dP_tall {ms : Nat → Nat} {pc : tPc} (h : okMs ms) (hp : okPc pc) : dP 400 12800 (fTall ms pc) := dP_part h hp.2.1
end FPB
