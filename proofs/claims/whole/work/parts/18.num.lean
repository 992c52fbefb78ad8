/-! lays: bounds, and what they don't hang on -/
theorem vf_sub {x y : UInt64} (hx : FP.Core.DFin x) (hy : FP.Core.DFin y) : vf_n64 (FP.dsub x y) := vf_of (FP.Core.dsub_out hx.notNaN hy)
theorem d2l_k {lo hi : Nat} {x : UInt64} (h : dP lo hi x) (hh : hi < 2 ^ 36) : FP.d2l x = lN (fM x / (64 * uU)) ∧ fM x / (64 * uU) ≤ hi / 64 := by
  have hb : fM x / (64 * uU) ≤ hi / 64 := by
    have := Nat.div_le_div_right (c := 64 * uU) h.2.2
    rwa [Nat.mul_div_mul_right _ _ uU_pos] at this
  refine ⟨?_, hb⟩
  have hlt : fM x / (64 * uU) < 2 ^ 31 := by omega
  refine Int64.toInt.inj ?_
  rw [FP.Core.d2l_val h.fin.ne_nan, lN_toInt hlt]
  obtain ⟨⟨c, q, e⟩, -⟩ := h
  rw [show FP.Core.sgn (FP.Core.val64 x) = false by rw [e]; rfl, one64_uU]
  show max (-2 ^ 63) (min (2 ^ 63 - 1) ((fM x / (64 * uU) : Nat) : Int)) = _
  generalize fM x / (64 * uU) = k at *
  omega
theorem fM_i2d {n : Nat} (h : n < 2 ^ 31) : fM (FP.i2d (nI n)) = 64 * n * uU := Nat.le_antisymm (dP_i2d h).2.2 (dP_i2d h).2.1
theorem l2d_nI {n : Nat} (h : n < 2 ^ 31) : FP.l2d (lN n) = FP.i2d (nI n) := by
  have e : FP.i2d (nI n) = FP.l2d (nI n).toInt64 := FP.Core.i2d_l2d (nI n)
  rw [e, nI_l h]
theorem fNext_k {lo hi : Nat} {x : UInt64} (h : dP lo hi x) (hh : hi < 2 ^ 36) : ∃ n, fNext x = FP.i2d (nI n) ∧ n ≤ hi / 64 + 1 ∧ fM x ≤ 64 * n * uU ∧ 64 * n * uU < fM x + 64 * uU := by
  obtain ⟨e, hb⟩ := d2l_k h hh
  have hlt : hi / 64 + 1 < 2 ^ 31 := by omega
  have hp : 0 < 64 * uU := Nat.mul_pos (by decide) uU_pos
  have h1 := Nat.div_add_mod (fM x) (64 * uU)
  have h2 := Nat.mod_lt (fM x) hp
  generalize hk : fM x / (64 * uU) = k at e hb h1
  have hm : 64 * uU * k = 64 * k * uU := Nat.mul_right_comm _ _ _
  have hm1 : 64 * (k + 1) * uU = 64 * k * uU + 64 * uU := by rw [Nat.mul_add, Nat.add_mul]
  rw [hm] at h1
  unfold fNext
  rw [e, lN_1, l2d_nI (by omega), l2d_nI (by omega), dP_cmp (dP_i2d (by omega)) h, fM_i2d (by omega)]
  by_cases hc : 64 * k * uU < fM x
  · rw [if_pos (congrArg some (Nat.compare_eq_lt.mpr hc))]
    exact ⟨k + 1, rfl, by omega, by omega, by omega⟩
  · rw [if_neg (fun z => hc (Nat.compare_eq_lt.mp (Option.some.inj z)))]
    exact ⟨k, rfl, by omega, by omega, by omega⟩
theorem dP_next {lo hi : Nat} {x : UInt64} (h : dP lo hi x) (hh : hi < 2 ^ 36) : dP lo (hi + 64) (fNext x) := by
  obtain ⟨n, e, hn, h1, h2⟩ := fNext_k h hh
  rw [e]
  have hd := dP_i2d (n := n) (by omega)
  exact ⟨hd.1, Nat.le_trans h.2.1 (Nat.le_trans h1 hd.2.1), Nat.le_trans hd.2.2 (Nat.mul_le_mul_right _ (by omega))⟩
theorem raise_tab : ∀ k : Fin 21, 0 < k.val → (592 / k.val * (64 * k.val) ≤ 592 * 64) ∧ (15580 * 64 ≤ (15580 / k.val + 1) * (64 * k.val)) ∧ (572 * 64 ≤ 592 / k.val * (64 * k.val)) ∧ ((15580 / k.val + 1 + 64) * (64 * k.val) ≤ 16880 * 64) ∧ 15580 / k.val ≤ 15580 := by decide +kernel
theorem dP_raise {sp : Nat} {x : UInt64} (hsp : sp ≤ 20) (h : dP 592 15580 x) : dP 572 16880 (fRaise sp x) ∧ (0 < sp → vf_n64 (FP.ddiv x (FP.i2d (nI sp))) ∧ vf_n64 (FP.dmul (fNext (FP.ddiv x (FP.i2d (nI sp)))) (FP.i2d (nI sp)))) := by
  by_cases h0 : 0 < sp
  · obtain ⟨t1, t2, t3, t4, t5⟩ := raise_tab ⟨sp, by omega⟩ h0
    have hi := dP_i2d (n := sp) (by omega)
    have hd : dP (592 / sp) (15580 / sp + 1) (FP.ddiv x (FP.i2d (nI sp))) := dP_div h hi (by omega) t1 t2 (by have : 15580 / sp ≤ 15580 := t5; omega)
    have hn := dP_next hd (by have : 15580 / sp ≤ 15580 := t5; omega)
    have hm : dP 572 16880 (FP.dmul (fNext (FP.ddiv x (FP.i2d (nI sp)))) (FP.i2d (nI sp))) := dP_mul hn hi t3 t4 (by omega)
    refine ⟨?_, fun _ => ⟨vf_of hd.nn, vf_of hm.nn⟩⟩
    rw [← fRaise_pos h0]
    exact hm
  · exact ⟨by rw [← fRaise_zero h0]; exact h.wk (by omega) (by omega), fun z => absurd z h0⟩
theorem fGe_le {a b c d : Nat} {x y : UInt64} (hx : dP a b x) (hy : dP c d y) (h : dGe x y) : fM y ≤ fM x := by
  rcases Nat.lt_or_ge (fM x) (fM y) with q | q
  · exact absurd (Or.inl (by rw [dP_cmp hx hy, Nat.compare_eq_lt.mpr q])) h
  · exact q
theorem fGt_lt {a b c d : Nat} {x y : UInt64} (hx : dP a b x) (hy : dP c d y) : FP.dcmp x y = some .gt ↔ fM y < fM x := by
  rw [dP_cmp hx hy]
  exact ⟨fun z => Nat.compare_eq_gt.mp (Option.some.inj z), fun z => congrArg some (Nat.compare_eq_gt.mpr z)⟩
/-- what is known of the rows -/
def okS (wd : UInt64) (n : Nat) (s : tLs) : Prop := s.1 ≤ n ∧ dP (572 * s.1) (16880 * s.1) s.2.2.1 ∧ ∀ r, r < s.1 → dP 0 10240 (s.2.2.2.2 r) ∧ fM (s.2.2.2.2 r) ≤ fM wd
abbrev dW (x : UInt64) : Prop := dP 592 15580 x
theorem okNew_of {wd : UInt64} {sp n : Nat} {s : tLs} {w t : UInt64} (hwd : dP 3360 10240 wd) (hsp : sp ≤ 20) (hw : dW w) (ht : dW t) (hs : okS wd n s) (hn : n < 40) : okNew wd sp s w t :=
  ⟨(dP_raise hsp ht).2, vf_sub hwd.fin hw.fin, vf_of (dP_add hs.2.1 (dP_raise hsp ht).1 (by have := hs.1; omega)).nn⟩
theorem okPut_of {wd : UInt64} {sp n : Nat} {s : tLs} {w t : UInt64} (hwd : dP 3360 10240 wd) (hsp : sp ≤ 20) (hw : dW w) (ht : dW t) (hs : okS wd n s) (hn : n < 40) : okPut wd sp s w t :=
  ⟨by have := hs.1; omega, fun i hi => vf_sub (hs.2.2 i hi).1.fin hw.fin, fun i hi => vf_sub (hs.2.2 i hi).1.fin ht.fin, okNew_of hwd hsp hw ht hs hn, okNew_of hwd hsp ht hw hs hn⟩
theorem fFirst_P (P : Nat → Bool) : ∀ d i, fFirst P d i < i + d → P (fFirst P d i) = true
  | 0, i, h => absurd h (by show ¬ i < i + 0; omega)
  | d + 1, i, h => by
    by_cases q : P i = true
    · rw [fFirst_at P q]; exact q
    · rw [fFirst_go P q] at h ⊢
      exact fFirst_P P d (i + 1) (by omega)
theorem okS_into {wd : UInt64} {n : Nat} {s s' : tLs} {room height : UInt64} (hw : dW room) (hs : okS wd n s) (h : fInto s room height = some s') : okS wd (n + 1) s' ∧ 0 < s'.1 ∧ fM room ≤ fM wd := by
  unfold fInto at h
  by_cases q : fFirst (fRow s.2.2.2.1 s.2.2.2.2 room height) s.1 0 < s.1
  · rw [if_pos q] at h
    have hp := fFirst_P (fRow s.2.2.2.1 s.2.2.2.2 room height) s.1 0 (by omega)
    generalize fFirst (fRow s.2.2.2.1 s.2.2.2.2 room height) s.1 0 = k at q h hp
    cases h
    obtain ⟨hs1, hs2, hs3⟩ := hs
    have hk := hs3 k q
    have hg : dGe (s.2.2.2.2 k) room := by
      unfold fRow at hp
      rw [Bool.and_eq_true] at hp
      exact of_decide_eq_true hp.1
    have hle := fGe_le hk.1 hw hg
    have hd := dP_sub (lo := 0) hk.1 (hw.wk (Nat.zero_le _) (Nat.le_refl _)) (by rw [Nat.zero_mul]; exact hle) (by omega)
    refine ⟨⟨by show s.1 ≤ n + 1; omega, hs2, fun r hr => ?_⟩, by show 0 < s.1; omega, Nat.le_trans hle hk.2⟩
    by_cases e : r = k
    · subst e
      show dP 0 10240 (vf_upd s.2.2.2.2 r _ r) ∧ fM (vf_upd s.2.2.2.2 r _ r) ≤ _
      rw [vu_s]
      exact ⟨hd.1, Nat.le_trans hd.2 hk.2⟩
    · show dP 0 10240 (vf_upd s.2.2.2.2 k _ r) ∧ fM (vf_upd s.2.2.2.2 k _ r) ≤ _
      rw [vu_n e]
      exact hs3 r hr
  · rw [if_neg q] at h
    cases h
theorem okS_new {wd : UInt64} {sp n : Nat} {s s' : tLs} {room height : UInt64} (hwd : dP 3360 10240 wd) (hsp : sp ≤ 20) (hw : dW room) (ht : dW height) (hs : okS wd n s) (hn : n < 40) (h : fNew wd sp s room height = some s') : okS wd (n + 1) s' ∧ 0 < s'.1 ∧ fM room ≤ fM wd := by
  unfold fNew at h
  by_cases q : FP.dcmp room wd = some .gt
  · rw [if_pos q] at h
    cases h
  · rw [if_neg q] at h
    cases h
    have hle : fM room ≤ fM wd := by
      rcases Nat.lt_or_ge (fM wd) (fM room) with z | z
      · exact absurd ((fGt_lt hw hwd).mpr z) q
      · exact z
    have hd := dP_sub (lo := 0) (hwd.wk (Nat.zero_le _) (Nat.le_refl _)) (hw.wk (Nat.zero_le _) (Nat.le_refl _)) (by rw [Nat.zero_mul]; exact hle) (by omega)
    obtain ⟨hs1, hs2, hs3⟩ := hs
    have ha := dP_add hs2 (dP_raise hsp ht).1 (by omega)
    refine ⟨⟨by show s.1 + 1 ≤ n + 1; omega, ha.wk (by show 572 * (s.1 + 1) ≤ _; omega) (by show _ ≤ 16880 * (s.1 + 1); omega), fun r hr => ?_⟩, Nat.succ_pos _, hle⟩
    by_cases e : r = s.1
    · subst e
      show dP 0 10240 (vf_upd s.2.2.2.2 s.1 _ s.1) ∧ fM (vf_upd s.2.2.2.2 s.1 _ s.1) ≤ _
      rw [vu_s]
      exact ⟨hd.1, hd.2⟩
    · have hr' : r < s.1 + 1 := hr
      show dP 0 10240 (vf_upd s.2.2.2.2 s.1 _ r) ∧ fM (vf_upd s.2.2.2.2 s.1 _ r) ≤ _
      rw [vu_n e]
      exact hs3 r (by omega)
/-- whether one finds a place at all -/
def fFits (wd : UInt64) (b : Bool) (w t : UInt64) : Prop := fM w ≤ fM wd ∨ (b = true ∧ fM t ≤ fM wd)
theorem okS_put {wd : UInt64} {sp n : Nat} {b : Bool} {s s' : tLs} {w t : UInt64} (hwd : dP 3360 10240 wd) (hsp : sp ≤ 20) (hw : dW w) (ht : dW t) (hs : okS wd n s) (hn : n < 40) (h : fPut wd sp b s w t = some s') : okS wd (n + 1) s' ∧ 0 < s'.1 ∧ fFits wd b w t := by
  have newN : ∀ s2, fPutN wd sp b s w t = some s2 → okS wd (n + 1) s2 ∧ 0 < s2.1 ∧ fFits wd b w t := by
    intro s2 e
    cases e1 : fNew wd sp s w t with
    | some s1 =>
      rw [fPutN_1 e1] at e
      cases e
      obtain ⟨a1, a2, a3⟩ := okS_new hwd hsp hw ht hs hn e1
      exact ⟨a1, a2, Or.inl a3⟩
    | none =>
      cases b with
      | false => rw [fPutN_4 e1] at e; cases e
      | true =>
        cases e2 : fNew wd sp s t w with
        | none => rw [fPutN_3 e1 e2] at e; cases e
        | some s1 =>
          rw [fPutN_2 e1 e2] at e
          cases e
          obtain ⟨a1, a2, a3⟩ := okS_new hwd hsp ht hw hs hn e2
          exact ⟨a1, a2, Or.inr ⟨rfl, a3⟩⟩
  cases e1 : fInto s w t with
  | some s1 =>
    rw [fPut_1 e1] at h
    cases h
    obtain ⟨a1, a2, a3⟩ := okS_into hw hs e1
    exact ⟨a1, a2, Or.inl a3⟩
  | none =>
    cases b with
    | false => rw [fPut_4 e1] at h; exact newN s' h
    | true =>
      cases e2 : fInto s t w with
      | none => rw [fPut_3 e1 e2] at h; exact newN s' h
      | some s1 =>
        rw [fPut_2 e1 e2] at h
        cases h
        obtain ⟨a1, a2, a3⟩ := okS_into ht hs e2
        exact ⟨a1, a2, Or.inr ⟨rfl, a3⟩⟩
theorem fNew_fits {wd : UInt64} {sp : Nat} {s : tLs} {w t : UInt64} (hwd : dP 3360 10240 wd) (hw : dW w) (h : fNew wd sp s w t = none) : ¬ fM w ≤ fM wd := by
  intro z
  unfold fNew at h
  rw [if_neg (fun q => absurd ((fGt_lt hw hwd).mp q) (by omega))] at h
  cases h
theorem fPut_none {wd : UInt64} {sp : Nat} {b : Bool} {s : tLs} {w t : UInt64} (hwd : dP 3360 10240 wd) (hw : dW w) (ht : dW t) (h : fPut wd sp b s w t = none) : ¬ fFits wd b w t := by
  have newN : fPutN wd sp b s w t = none → ¬ fFits wd b w t := by
    intro e
    cases e1 : fNew wd sp s w t with
    | some s1 => rw [fPutN_1 e1] at e; cases e
    | none =>
      cases b with
      | false => exact fun z => z.elim (fNew_fits hwd hw e1) (fun z => absurd z.1 (by decide))
      | true =>
        cases e2 : fNew wd sp s t w with
        | some s1 => rw [fPutN_2 e1 e2] at e; cases e
        | none => exact fun z => z.elim (fNew_fits hwd hw e1) (fun z => fNew_fits hwd ht e2 z.2)
  cases e1 : fInto s w t with
  | some s1 => rw [fPut_1 e1] at h; cases h
  | none =>
    cases b with
    | false => rw [fPut_4 e1] at h; exact newN h
    | true =>
      cases e2 : fInto s t w with
      | none => rw [fPut_3 e1 e2] at h; exact newN h
      | some s1 => rw [fPut_2 e1 e2] at h; cases h
/-- what a lay of bounded pieces is -/
theorem okRun_of {wd : UInt64} {sp : Nat} {b : Bool} {fw fl : Nat → UInt64} (hwd : dP 3360 10240 wd) (hsp : sp ≤ 20) : ∀ (d i : Nat) (cov : UInt64) (s : tLs), (∀ j, i ≤ j → j < i + d → dW (fw j) ∧ dW (fl j)) → i + d ≤ 40 → okS wd i s → dP 0 (3792757 * i) cov → okRun wd sp b fw fl d i cov s ∧ ∀ r, fLay wd sp b fw fl d i cov s = some r → okS wd (i + d) r.2 ∧ dP 0 (3792757 * (i + d)) r.1 ∧ ((0 < d ∨ 0 < s.1) → 0 < r.2.1)
  | 0, i, cov, s, hf, hn, hs, hc => ⟨trivial, fun r e => by
      cases e
      exact ⟨hs, hc, fun z => z.elim (fun q => absurd q (Nat.lt_irrefl _)) id⟩⟩
  | d + 1, i, cov, s, hf, hn, hs, hc => by
    obtain ⟨hw, ht⟩ := hf i (Nat.le_refl _) (by omega)
    have hm : dP 0 3792757 (FP.dmul (fw i) (fl i)) := dP_mul hw ht (by omega) (by omega) (by omega)
    have ha : dP 0 (3792757 * (i + 1)) (FP.dadd cov (FP.dmul (fw i) (fl i))) := (dP_add hc hm (by omega)).wk (by omega) (by omega)
    have go : ∀ s', fPut wd sp b s (fw i) (fl i) = some s' → _ := fun s' e => okRun_of (b := b) hwd hsp d (i + 1) (FP.dadd cov (FP.dmul (fw i) (fl i))) s' (fun j h1 h2 => hf j (by omega) (by omega)) (by omega) (okS_put hwd hsp hw ht hs (by omega) e).1 ha
    refine ⟨⟨okPut_of hwd hsp hw ht hs (by omega), vf_of hm.nn, vf_of ha.nn, fun s' e => (go s' e).1⟩, fun r e => ?_⟩
    cases e1 : fPut wd sp b s (fw i) (fl i) with
    | none => rw [fLay_no e1] at e; cases e
    | some s' =>
      rw [fLay_go e1] at e
      obtain ⟨a1, a2, a3⟩ := (go s' e1).2 r e
      have a4 := (okS_put hwd hsp hw ht hs (by omega) e1).2.1
      rw [show i + 1 + d = i + (d + 1) by omega] at a1 a2
      exact ⟨a1, a2, fun _ => a3 (Or.inr a4)⟩
/-- there is a lay where each finds a place -/
theorem fLay_fits {wd : UInt64} {sp : Nat} {b : Bool} {fw fl : Nat → UInt64} (hwd : dP 3360 10240 wd) (hsp : sp ≤ 20) : ∀ (d i : Nat) (cov : UInt64) (s : tLs), (∀ j, i ≤ j → j < i + d → dW (fw j) ∧ dW (fl j)) → i + d ≤ 40 → okS wd i s → ((∃ r, fLay wd sp b fw fl d i cov s = some r) ↔ ∀ j, i ≤ j → j < i + d → fFits wd b (fw j) (fl j))
  | 0, i, cov, s, hf, hn, hs => ⟨fun _ j h1 h2 => absurd h2 (by omega), fun _ => ⟨_, rfl⟩⟩
  | d + 1, i, cov, s, hf, hn, hs => by
    obtain ⟨hw, ht⟩ := hf i (Nat.le_refl _) (by omega)
    cases e1 : fPut wd sp b s (fw i) (fl i) with
    | none =>
      constructor
      · rintro ⟨r, e⟩
        rw [fLay_no e1] at e
        cases e
      · intro z
        exact absurd (z i (Nat.le_refl _) (by omega)) (fPut_none hwd hw ht e1)
    | some s' =>
      obtain ⟨a1, a2, a3⟩ := okS_put hwd hsp hw ht hs (by omega) e1
      have ih := fLay_fits (b := b) (fw := fw) (fl := fl) hwd hsp d (i + 1) (FP.dadd cov (FP.dmul (fw i) (fl i))) s' (fun j h1 h2 => hf j (by omega) (by omega)) (by omega) a1
      rw [fLay_go e1, ih]
      constructor
      · intro z j h1 h2
        by_cases e : j = i
        · subst e; exact a3
        · exact z j (by omega) (by omega)
      · intro z j h1 h2
        exact z j (by omega) (by omega)
