/-! the class, its own methods -/
set_option maxHeartbeats 4000000 in
set_option maxRecDepth 100000 in
/-- TailorBench.spend  -/
theorem c_spend {l : Launch} {D : va_G} {cy : Nat → ClassId} {sad : Nat → Nat} {em : Nat} {s0 : State} {a0 : Array Value} (G : kG kSTR l D cy sad em s0 a0) {ad : Nat → Nat} {ct : Nat → Option va_E} {M : tM} (hm : RepC cy ad ct M) (ho : okM M) (x : UInt64) (hx0 : vf_n64 (FP.dadd (mClk M) x)) :
    KM l yX7_spend [.code yX7_spend prog_1_method_36_code 3 none] 0 0 0 0 [.ref (ad 1), .double x] D s0 ad ct (fun v ad' ct' => v = none ∧ ad' = ad ∧ ct' 1 = some (oShop ad (sSh M (fSpend (mClk M) x, M.2.1.2))) ∧ ∀ k, k ≠ 1 → ct' k = ct k) := by
  refine KM.of G (by decide) (Nat.le_of_ble_eq_true rfl) (Nat.le_of_ble_eq_true rfl) ?_
  intro p e s m args below meth c ls Q hQ X hin hL hW hS
  obtain ⟨hx, hb, hr, hml, hown, hlocks, hts, hq, hK, hI⟩ := X
  obtain ⟨h1, ⟨ha2, ha3, ha4, ha5, ha6⟩, hcl, hpe, hst, hsa, hpc, hha, hod, hbo⟩ := hm
  obtain ⟨⟨hb1, hb2, hb3, hb4, hb5⟩, hk1, hk2, hk3, hk4, hk5⟩ := ho
  refine lv_aload_n hx hb dX7_spend_0 rfl (hL.at 0 rfl) ?_
  refine lv_aload_n hx hb dX7_spend_1 rfl (hL.at 0 rfl) ?_
  refine k_get (ci := 9) (C := RX7) (T := TX7) (N := 15) hx hb hts w_RX7 hown hK hW (by first | assumption | exact up_s | (rw [up_n (by omega)]; first | assumption | exact up_s | (rw [up_n (by omega)]; first | assumption | exact up_s | (rw [up_n (by omega)]; first | assumption | exact up_s | (rw [up_n (by omega)]; first | assumption | exact up_s | (rw [up_n (by omega)]; first | assumption | exact up_s | (rw [up_n (by omega)]; first | assumption | exact up_s | (rw [up_n (by omega)]; first | assumption | exact up_s | (rw [up_n (by omega)]; first | assumption | exact up_s | (rw [up_n (by omega)]; first | assumption | exact up_s | (rw [up_n (by omega)]; first | assumption | exact up_s | (rw [up_n (by omega)]; first | assumption | exact up_s)))))))))))) rfl 11 (by decide) (hq _ q160 rfl) (fun _ h9 => h9) (by rfl) dX7_spend_2 ?_
  refine lv_dload_n hx hb dX7_spend_5 rfl (hL.at 1 rfl) ?_
  refine lv_dadd hx hb dX7_spend_6 hx0 ?_
  refine k_put (ci := 9) (C := RX7) (T := TX7) (N := 15) (ty := tyX7 11) hx hb hts w_RX7 tyX7 tyX7_ok nmX7 hown hK hW hS (by first | assumption | exact up_s | (rw [up_n (by omega)]; first | assumption | exact up_s | (rw [up_n (by omega)]; first | assumption | exact up_s | (rw [up_n (by omega)]; first | assumption | exact up_s | (rw [up_n (by omega)]; first | assumption | exact up_s | (rw [up_n (by omega)]; first | assumption | exact up_s | (rw [up_n (by omega)]; first | assumption | exact up_s | (rw [up_n (by omega)]; first | assumption | exact up_s | (rw [up_n (by omega)]; first | assumption | exact up_s | (rw [up_n (by omega)]; first | assumption | exact up_s | (rw [up_n (by omega)]; first | assumption | exact up_s | (rw [up_n (by omega)]; first | assumption | exact up_s)))))))))))) (by omega) rfl 11 (by decide) (hq _ q160 rfl) (fun _ h9 => h9) rfl (by decide +kernel) rfl rfl (by first | exact Nat.le_of_ble_eq_true rfl | (simp only [List.length_set]; exact Nat.le_of_ble_eq_true rfl)) dX7_spend_7 (fun H locs hW hS => ?_)
  refine lv_aload_n hx hb dX7_spend_10 rfl (hL.at 0 rfl) ?_
  refine k_get (ci := 9) (C := RX7) (T := TX7) (N := 15) hx hb hts w_RX7 hown hK hW (by first | assumption | exact up_s | (rw [up_n (by omega)]; first | assumption | exact up_s | (rw [up_n (by omega)]; first | assumption | exact up_s | (rw [up_n (by omega)]; first | assumption | exact up_s | (rw [up_n (by omega)]; first | assumption | exact up_s | (rw [up_n (by omega)]; first | assumption | exact up_s | (rw [up_n (by omega)]; first | assumption | exact up_s | (rw [up_n (by omega)]; first | assumption | exact up_s | (rw [up_n (by omega)]; first | assumption | exact up_s | (rw [up_n (by omega)]; first | assumption | exact up_s | (rw [up_n (by omega)]; first | assumption | exact up_s | (rw [up_n (by omega)]; first | assumption | exact up_s)))))))))))) rfl 11 (by decide) (hq _ q160 rfl) (fun _ h9 => h9) (by rfl) dX7_spend_11 ?_
  refine lv_ldc2d hx hb hown (hq _ q737 rfl) dX7_spend_14 ?_
  refine lv_dcmp hx hb dX7_spend_17 ?_
  refine lv_if_le (tgt := 28) hx hb dX7_spend_18 (by decide) (fun c18 => ?_) (fun c18 => ?_)
  · rw [cl_le] at c18
    have hsp := fSpend_t c18
    rw [hQ]
    exact k_vret hx hb hr hlocks hW hS (by omega) (by omega) dX7_spend_28 (⟨rfl, rfl, by rw [hsp]; exact up_s, fun k hk => by first | exact up_n hk | exact (up_n hk).trans (up_n hk)⟩)
  · rw [cl_le] at c18
    have hsp := fSpend_f (Decidable.not_not.mp c18)
    refine lv_aload_n hx hb dX7_spend_21 rfl (hL.at 0 rfl) ?_
    refine lv_ldc2d hx hb hown (hq _ q737 rfl) dX7_spend_22 ?_
    refine k_put (ci := 9) (C := RX7) (T := TX7) (N := 15) (ty := tyX7 11) hx hb hts w_RX7 tyX7 tyX7_ok nmX7 hown hK hW hS (by first | assumption | exact up_s | (rw [up_n (by omega)]; first | assumption | exact up_s | (rw [up_n (by omega)]; first | assumption | exact up_s | (rw [up_n (by omega)]; first | assumption | exact up_s | (rw [up_n (by omega)]; first | assumption | exact up_s | (rw [up_n (by omega)]; first | assumption | exact up_s | (rw [up_n (by omega)]; first | assumption | exact up_s | (rw [up_n (by omega)]; first | assumption | exact up_s | (rw [up_n (by omega)]; first | assumption | exact up_s | (rw [up_n (by omega)]; first | assumption | exact up_s | (rw [up_n (by omega)]; first | assumption | exact up_s | (rw [up_n (by omega)]; first | assumption | exact up_s)))))))))))) (by omega) rfl 11 (by decide) (hq _ q160 rfl) (fun _ h9 => h9) rfl (by decide +kernel) rfl rfl (by first | exact Nat.le_of_ble_eq_true rfl | (simp only [List.length_set]; exact Nat.le_of_ble_eq_true rfl)) dX7_spend_25 (fun H locs hW hS => ?_)
    rw [hQ]
    exact k_vret hx hb hr hlocks hW hS (by omega) (by omega) dX7_spend_28 (⟨rfl, rfl, by rw [hsp]; exact up_s, fun k hk => by first | exact up_n hk | exact (up_n hk).trans (up_n hk)⟩)

set_option maxHeartbeats 4000000 in
set_option maxRecDepth 100000 in
/-- TailorBench.countInState  -/
theorem c_countIn {l : Launch} {D : va_G} {cy : Nat → ClassId} {sad : Nat → Nat} {em : Nat} {s0 : State} {a0 : Array Value} (G : kG kSTR l D cy sad em s0 a0) {ad : Nat → Nat} {ct : Nat → Option va_E} {M : tM} (hm : RepC cy ad ct M) (ho : okM M) (st : Nat) (hst0 : st < 6) :
    KM l yX7_countInState [.code yX7_countInState prog_1_method_37_code 4 (some .int)] 0 0 0 0 [.ref (ad 1), .int (nI st)] D s0 ad ct (fun v ad' ct' => v = some (.int (nI (fCS M st (mO M) 0 0))) ∧ ad' = ad ∧ ct' = ct) := by
  refine KM.of G (by decide) (Nat.le_of_ble_eq_true rfl) (Nat.le_of_ble_eq_true rfl) ?_
  intro p e s m args below meth c ls Q hQ X hin hL hW hS
  obtain ⟨hx, hb, hr, hml, hown, hlocks, hts, hq, hK, hI⟩ := X
  obtain ⟨h1, ⟨ha2, ha3, ha4, ha5, ha6⟩, hcl, hpe, hst, hsa, hpc, hha, hod, hbo⟩ := hm
  obtain ⟨⟨hb1, hb2, hb3, hb4, hb5⟩, hk1, hk2, hk3, hk4, hk5⟩ := ho
  refine lv_iconst (v := 0) hx hb dX7_countInState_0 (by decide) ?_
  refine k_ist_n hx hb hL (i := 2) rfl (by decide) dX7_countInState_1 (fun ls hL => ?_)
  refine lv_iconst (v := 0) hx hb dX7_countInState_2 (by decide) ?_
  refine k_ist_n hx hb hL (i := 3) rfl (by decide) dX7_countInState_3 (fun ls hL => ?_)
  have loop4 : ∀ (nf : Nat) (j cn : Nat), mO M - j < nf → j ≤ mO M → fCS M st (mO M - j) j cn = fCS M st (mO M) 0 0 → ∀ (H : Heap) (locs : List Loc) (ls : Array Slot), kW D s0.heap.size ad ct H → va_S (kA s0) s.heap H locs → lvP ls 4 [some (.ref (ad 1)), some (.int (nI st)), some (.int (nI cn)), some (.int (nI j))] → W p l e (krm 0 0 0 0) s m args below meth c H locs 0 0 Q (F0 m 4 ls []) := by
    intro nf
    induction nf with
    | zero => intro j cn hms4; exact absurd hms4 (Nat.not_lt_zero _)
    | succ nf ih4 =>
      intro j cn hms4 hj hl H locs ls hW hS hL
      refine lv_iload_n hx hb dX7_countInState_4 rfl (hL.at 3 rfl) ?_
      refine lv_aload_n hx hb dX7_countInState_5 rfl (hL.at 0 rfl) ?_
      refine k_get (ci := 9) (C := RX7) (T := TX7) (N := 15) hx hb hts w_RX7 hown hK hW (by first | assumption | exact up_s | (rw [up_n (by omega)]; first | assumption | exact up_s | (rw [up_n (by omega)]; first | assumption | exact up_s | (rw [up_n (by omega)]; first | assumption | exact up_s | (rw [up_n (by omega)]; first | assumption | exact up_s | (rw [up_n (by omega)]; first | assumption | exact up_s | (rw [up_n (by omega)]; first | assumption | exact up_s | (rw [up_n (by omega)]; first | assumption | exact up_s | (rw [up_n (by omega)]; first | assumption | exact up_s | (rw [up_n (by omega)]; first | assumption | exact up_s | (rw [up_n (by omega)]; first | assumption | exact up_s | (rw [up_n (by omega)]; first | assumption | exact up_s)))))))))))) rfl 10 (by decide) (hq _ q159 rfl) (fun _ h9 => h9) (by rfl) dX7_countInState_6 ?_
      refine lv_icmp_ge (tgt := 34) hx hb dX7_countInState_9 (by decide) (fun c9 => ?_) (fun c9 => ?_)
      · try dsimp only at c9
        have ej : j = mO M := by have := (nI_leI (by omega) (by omega)).mp c9; omega
        refine lv_iload_n hx hb dX7_countInState_34 rfl (hL.at 2 rfl) ?_
        rw [hQ]
        exact k_iret hx hb hr hlocks hW hS (by omega) (by omega) dX7_countInState_35 (⟨by rw [← hl, ej, Nat.sub_self]; rfl, rfl, rfl⟩)
      · try dsimp only at c9
        have hlt : j < mO M := by
          rcases Nat.lt_or_ge j (mO M) with q | q
          · exact q
          · exact absurd (nI_le q (by omega)) c9
        refine lv_aload_n hx hb dX7_countInState_12 rfl (hL.at 0 rfl) ?_
        refine k_get (ci := 9) (C := RX7) (T := TX7) (N := 15) hx hb hts w_RX7 hown hK hW (by first | assumption | exact up_s | (rw [up_n (by omega)]; first | assumption | exact up_s | (rw [up_n (by omega)]; first | assumption | exact up_s | (rw [up_n (by omega)]; first | assumption | exact up_s | (rw [up_n (by omega)]; first | assumption | exact up_s | (rw [up_n (by omega)]; first | assumption | exact up_s | (rw [up_n (by omega)]; first | assumption | exact up_s | (rw [up_n (by omega)]; first | assumption | exact up_s | (rw [up_n (by omega)]; first | assumption | exact up_s | (rw [up_n (by omega)]; first | assumption | exact up_s | (rw [up_n (by omega)]; first | assumption | exact up_s | (rw [up_n (by omega)]; first | assumption | exact up_s)))))))))))) rfl 4 (by decide) (hq _ q153 rfl) (fun _ h9 => h9) (by rfl) dX7_countInState_13 ?_
        refine lv_iload_n hx hb dX7_countInState_16 rfl (hL.at 3 rfl) ?_
        refine k_aald hx hb hK hW 8 (by first | assumption | exact up_s | (rw [up_n (by omega)]; first | assumption | exact up_s | (rw [up_n (by omega)]; first | assumption | exact up_s | (rw [up_n (by omega)]; first | assumption | exact up_s | (rw [up_n (by omega)]; first | assumption | exact up_s | (rw [up_n (by omega)]; first | assumption | exact up_s | (rw [up_n (by omega)]; first | assumption | exact up_s | (rw [up_n (by omega)]; first | assumption | exact up_s | (rw [up_n (by omega)]; first | assumption | exact up_s | (rw [up_n (by omega)]; first | assumption | exact up_s | (rw [up_n (by omega)]; first | assumption | exact up_s | (rw [up_n (by omega)]; first | assumption | exact up_s)))))))))))) rfl j (by omega) (by omega) rfl (kqs_at hlt) dX7_countInState_17 ?_
        refine k_getN (ci := 4) (C := RX2) (T := TX2) (N := 10) hx hb hts w_RX2 hown hK hW (hod j hlt) rfl 4 (by decide) (hq _ q679 rfl) (fun _ h9 => h9) (by rfl) dX7_countInState_18 ?_
        refine lv_iload_n hx hb dX7_countInState_21 rfl (hL.at 1 rfl) ?_
        refine lv_icmp_ne (tgt := 28) hx hb dX7_countInState_22 (by decide) (fun c22 => ?_) (fun c22 => ?_)
        · try dsimp only at c22
          have hB : (if oState (mod M j) = st then cn + 1 else cn) = cn := if_neg (fun z => c22 (by rw [z]))
          refine k_iinc hx hb hL (i := 3) rfl (by decide) dX7_countInState_28 (fun ls hL => ?_)
          refine lv_goto (tgt := 4) hx hb dX7_countInState_31 (by decide) ?_
          rw [show nI j + Int32.ofInt 1 = nI (j + 1) from nI_1 j] at hL
          exact ih4 (j + 1) _ (by omega) (by omega) (by rw [← hl, show mO M - j = (mO M - (j + 1)) + 1 by omega]; show _ = fCS M st (mO M - (j + 1)) (j + 1) (if oState (mod M j) = st then cn + 1 else cn); rw [hB]) _ _ _ hW hS hL
        · try dsimp only at c22
          have hs5 := (hk5 j hlt).2.2.2
          have hB : (if oState (mod M j) = st then cn + 1 else cn) = cn + 1 := if_pos ((nI_eq (by omega) (by omega)).mp (by first | exact c22 | exact Decidable.not_not.mp c22))
          refine k_iinc hx hb hL (i := 2) rfl (by decide) dX7_countInState_25 (fun ls hL => ?_)
          rw [show nI cn + Int32.ofInt 1 = nI (cn + 1) from nI_1 cn] at hL
          refine k_iinc hx hb hL (i := 3) rfl (by decide) dX7_countInState_28 (fun ls hL => ?_)
          refine lv_goto (tgt := 4) hx hb dX7_countInState_31 (by decide) ?_
          rw [show nI j + Int32.ofInt 1 = nI (j + 1) from nI_1 j] at hL
          exact ih4 (j + 1) _ (by omega) (by omega) (by rw [← hl, show mO M - j = (mO M - (j + 1)) + 1 by omega]; show _ = fCS M st (mO M - (j + 1)) (j + 1) (if oState (mod M j) = st then cn + 1 else cn); rw [hB]) _ _ _ hW hS hL
  exact loop4 (mO M + 1) 0 0 (by omega) (Nat.zero_le _) rfl _ _ _ hW hS hL

set_option maxHeartbeats 4000000 in
set_option maxRecDepth 100000 in
/-- TailorBench.endOfSewing  -/
theorem c_endOf {l : Launch} {D : va_G} {cy : Nat → ClassId} {sad : Nat → Nat} {em : Nat} {s0 : State} {a0 : Array Value} (G : kG kSTR l D cy sad em s0 a0) {ad : Nat → Nat} {ct : Nat → Option va_E} {M : tM} (hm : RepC cy ad ct M) (ho : okM M) {i : Nat} (hi : i < mO M) {kh : Nat} (hh : kh < mH M) (hok : okEnd (mClk M) (mha M kh).2 (mCnt M i) (mha M kh).1) :
    KM l yX7_endOfSewing [.code yX7_endOfSewing prog_1_method_38_code 5 (some .double)] 0 0 0 0 [.ref (ad 1), .ref (ad (64 + i)), .ref (ad (56 + kh))] D s0 ad ct (fun v ad' ct' => v = some (.double (fEnd (mClk M) (mha M kh).2 (mCnt M i) (mha M kh).1)) ∧ ad' = ad ∧ ct' = ct) := by
  refine KM.of G (by decide) (Nat.le_of_ble_eq_true rfl) (Nat.le_of_ble_eq_true rfl) ?_
  intro p e s m args below meth c ls Q hQ X hin hL hW hS
  obtain ⟨hx, hb, hr, hml, hown, hlocks, hts, hq, hK, hI⟩ := X
  obtain ⟨oo, ob, os, oa, op, ow, oms, o5, ok, opos, ost⟩ := hm.ord ho hi
  obtain ⟨h1, ⟨ha2, ha3, ha4, ha5, ha6⟩, hcl, hpe, hst, hsa, hpc, hha, hod, hbo⟩ := hm
  obtain ⟨⟨hb1, hb2, hb3, hb4, hb5⟩, hk1, hk2, hk3, hk4, hk5⟩ := ho
  have hHA := hha kh hh
  refine lv_aload_n hx hb dX7_endOfSewing_0 rfl (hL.at 0 rfl) ?_
  refine k_get (ci := 9) (C := RX7) (T := TX7) (N := 15) hx hb hts w_RX7 hown hK hW (by first | assumption | exact up_s | (rw [up_n (by omega)]; first | assumption | exact up_s | (rw [up_n (by omega)]; first | assumption | exact up_s | (rw [up_n (by omega)]; first | assumption | exact up_s | (rw [up_n (by omega)]; first | assumption | exact up_s | (rw [up_n (by omega)]; first | assumption | exact up_s | (rw [up_n (by omega)]; first | assumption | exact up_s | (rw [up_n (by omega)]; first | assumption | exact up_s | (rw [up_n (by omega)]; first | assumption | exact up_s | (rw [up_n (by omega)]; first | assumption | exact up_s | (rw [up_n (by omega)]; first | assumption | exact up_s | (rw [up_n (by omega)]; first | assumption | exact up_s)))))))))))) rfl 11 (by decide) (hq _ q160 rfl) (fun _ h9 => h9) (by rfl) dX7_endOfSewing_1 ?_
  refine lv_aload_n hx hb dX7_endOfSewing_4 rfl (hL.at 2 rfl) ?_
  refine k_getN (ci := 3) (C := RX1) (T := TX1) (N := 2) hx hb hts w_RX1 hown hK hW (by first | assumption | exact up_s | (rw [up_n (by omega)]; first | assumption | exact up_s | (rw [up_n (by omega)]; first | assumption | exact up_s | (rw [up_n (by omega)]; first | assumption | exact up_s | (rw [up_n (by omega)]; first | assumption | exact up_s | (rw [up_n (by omega)]; first | assumption | exact up_s | (rw [up_n (by omega)]; first | assumption | exact up_s | (rw [up_n (by omega)]; first | assumption | exact up_s | (rw [up_n (by omega)]; first | assumption | exact up_s | (rw [up_n (by omega)]; first | assumption | exact up_s | (rw [up_n (by omega)]; first | assumption | exact up_s | (rw [up_n (by omega)]; first | assumption | exact up_s)))))))))))) rfl 1 (by decide) (hq _ q649 rfl) (fun _ h9 => h9) (by rfl) dX7_endOfSewing_5 ?_
  refine lv_dcmp hx hb dX7_endOfSewing_8 ?_
  refine lv_if_lt (tgt := 19) hx hb dX7_endOfSewing_9 (by decide) (fun c9 => ?_) (fun c9 => ?_)
  · rw [cl_lt] at c9
    refine lv_aload_n hx hb dX7_endOfSewing_19 rfl (hL.at 2 rfl) ?_
    refine k_getN (ci := 3) (C := RX1) (T := TX1) (N := 2) hx hb hts w_RX1 hown hK hW (by first | assumption | exact up_s | (rw [up_n (by omega)]; first | assumption | exact up_s | (rw [up_n (by omega)]; first | assumption | exact up_s | (rw [up_n (by omega)]; first | assumption | exact up_s | (rw [up_n (by omega)]; first | assumption | exact up_s | (rw [up_n (by omega)]; first | assumption | exact up_s | (rw [up_n (by omega)]; first | assumption | exact up_s | (rw [up_n (by omega)]; first | assumption | exact up_s | (rw [up_n (by omega)]; first | assumption | exact up_s | (rw [up_n (by omega)]; first | assumption | exact up_s | (rw [up_n (by omega)]; first | assumption | exact up_s | (rw [up_n (by omega)]; first | assumption | exact up_s)))))))))))) rfl 1 (by decide) (hq _ q649 rfl) (fun _ h9 => h9) (by rfl) dX7_endOfSewing_20 ?_
    refine lv_topd (fun r hr0 => ?_)
    have hr1 := hr0.trans (fBeg_t c9)
    subst hr1
    refine k_dst_n hx hb hL (i := 3) rfl (by decide) dX7_endOfSewing_23 (fun ls hL => ?_)
    refine lv_dload_n hx hb dX7_endOfSewing_24 rfl (hL.at 3 rfl) ?_
    refine lv_aload_n hx hb dX7_endOfSewing_25 rfl (hL.at 1 rfl) ?_
    refine k_getN (ci := 4) (C := RX2) (T := TX2) (N := 10) hx hb hts w_RX2 hown hK hW (by first | assumption | exact up_s | (rw [up_n (by omega)]; first | assumption | exact up_s | (rw [up_n (by omega)]; first | assumption | exact up_s | (rw [up_n (by omega)]; first | assumption | exact up_s | (rw [up_n (by omega)]; first | assumption | exact up_s | (rw [up_n (by omega)]; first | assumption | exact up_s | (rw [up_n (by omega)]; first | assumption | exact up_s | (rw [up_n (by omega)]; first | assumption | exact up_s | (rw [up_n (by omega)]; first | assumption | exact up_s | (rw [up_n (by omega)]; first | assumption | exact up_s | (rw [up_n (by omega)]; first | assumption | exact up_s | (rw [up_n (by omega)]; first | assumption | exact up_s)))))))))))) rfl 1 (by decide) (hq _ q674 rfl) (fun _ h9 => h9) (by rfl) dX7_endOfSewing_26 ?_
    refine k_getN (ci := 7) (C := RX5) (T := TX5) (N := 5) hx hb hts w_RX5 hown hK hW (by first | assumption | exact up_s | (rw [up_n (by omega)]; first | assumption | exact up_s | (rw [up_n (by omega)]; first | assumption | exact up_s | (rw [up_n (by omega)]; first | assumption | exact up_s | (rw [up_n (by omega)]; first | assumption | exact up_s | (rw [up_n (by omega)]; first | assumption | exact up_s | (rw [up_n (by omega)]; first | assumption | exact up_s | (rw [up_n (by omega)]; first | assumption | exact up_s | (rw [up_n (by omega)]; first | assumption | exact up_s | (rw [up_n (by omega)]; first | assumption | exact up_s | (rw [up_n (by omega)]; first | assumption | exact up_s | (rw [up_n (by omega)]; first | assumption | exact up_s)))))))))))) rfl 3 (by decide) (hq _ q582 rfl) (fun _ h9 => h9) (by rfl) dX7_endOfSewing_29 ?_
    refine lv_i2d hx hb dX7_endOfSewing_32 ?_
    refine lv_ldc2d hx hb hown (hq _ q412 rfl) dX7_endOfSewing_33 ?_
    refine lv_dmul hx hb dX7_endOfSewing_36 hok.1 ?_
    refine lv_aload_n hx hb dX7_endOfSewing_37 rfl (hL.at 2 rfl) ?_
    refine k_getN (ci := 3) (C := RX1) (T := TX1) (N := 2) hx hb hts w_RX1 hown hK hW (by first | assumption | exact up_s | (rw [up_n (by omega)]; first | assumption | exact up_s | (rw [up_n (by omega)]; first | assumption | exact up_s | (rw [up_n (by omega)]; first | assumption | exact up_s | (rw [up_n (by omega)]; first | assumption | exact up_s | (rw [up_n (by omega)]; first | assumption | exact up_s | (rw [up_n (by omega)]; first | assumption | exact up_s | (rw [up_n (by omega)]; first | assumption | exact up_s | (rw [up_n (by omega)]; first | assumption | exact up_s | (rw [up_n (by omega)]; first | assumption | exact up_s | (rw [up_n (by omega)]; first | assumption | exact up_s | (rw [up_n (by omega)]; first | assumption | exact up_s)))))))))))) rfl 0 (by decide) (hq _ q648 rfl) (fun _ h9 => h9) (by rfl) dX7_endOfSewing_38 ?_
    refine lv_f2d hx hb dX7_endOfSewing_41 hok.2.1 ?_
    refine lv_ddiv hx hb dX7_endOfSewing_42 hok.2.2.1 ?_
    refine lv_dadd hx hb dX7_endOfSewing_43 hok.2.2.2 ?_
    rw [hQ]
    exact k_dret hx hb hr hlocks hW hS (by omega) (by omega) dX7_endOfSewing_44 (⟨rfl, rfl, rfl⟩)
  · rw [cl_lt] at c9
    refine lv_aload_n hx hb dX7_endOfSewing_12 rfl (hL.at 0 rfl) ?_
    refine k_get (ci := 9) (C := RX7) (T := TX7) (N := 15) hx hb hts w_RX7 hown hK hW (by first | assumption | exact up_s | (rw [up_n (by omega)]; first | assumption | exact up_s | (rw [up_n (by omega)]; first | assumption | exact up_s | (rw [up_n (by omega)]; first | assumption | exact up_s | (rw [up_n (by omega)]; first | assumption | exact up_s | (rw [up_n (by omega)]; first | assumption | exact up_s | (rw [up_n (by omega)]; first | assumption | exact up_s | (rw [up_n (by omega)]; first | assumption | exact up_s | (rw [up_n (by omega)]; first | assumption | exact up_s | (rw [up_n (by omega)]; first | assumption | exact up_s | (rw [up_n (by omega)]; first | assumption | exact up_s | (rw [up_n (by omega)]; first | assumption | exact up_s)))))))))))) rfl 11 (by decide) (hq _ q160 rfl) (fun _ h9 => h9) (by rfl) dX7_endOfSewing_13 ?_
    refine lv_topd (fun r hr0 => ?_)
    have hr1 := hr0.trans (fBeg_f c9)
    subst hr1
    refine lv_goto (tgt := 23) hx hb dX7_endOfSewing_16 (by decide) ?_
    refine k_dst_n hx hb hL (i := 3) rfl (by decide) dX7_endOfSewing_23 (fun ls hL => ?_)
    refine lv_dload_n hx hb dX7_endOfSewing_24 rfl (hL.at 3 rfl) ?_
    refine lv_aload_n hx hb dX7_endOfSewing_25 rfl (hL.at 1 rfl) ?_
    refine k_getN (ci := 4) (C := RX2) (T := TX2) (N := 10) hx hb hts w_RX2 hown hK hW (by first | assumption | exact up_s | (rw [up_n (by omega)]; first | assumption | exact up_s | (rw [up_n (by omega)]; first | assumption | exact up_s | (rw [up_n (by omega)]; first | assumption | exact up_s | (rw [up_n (by omega)]; first | assumption | exact up_s | (rw [up_n (by omega)]; first | assumption | exact up_s | (rw [up_n (by omega)]; first | assumption | exact up_s | (rw [up_n (by omega)]; first | assumption | exact up_s | (rw [up_n (by omega)]; first | assumption | exact up_s | (rw [up_n (by omega)]; first | assumption | exact up_s | (rw [up_n (by omega)]; first | assumption | exact up_s | (rw [up_n (by omega)]; first | assumption | exact up_s)))))))))))) rfl 1 (by decide) (hq _ q674 rfl) (fun _ h9 => h9) (by rfl) dX7_endOfSewing_26 ?_
    refine k_getN (ci := 7) (C := RX5) (T := TX5) (N := 5) hx hb hts w_RX5 hown hK hW (by first | assumption | exact up_s | (rw [up_n (by omega)]; first | assumption | exact up_s | (rw [up_n (by omega)]; first | assumption | exact up_s | (rw [up_n (by omega)]; first | assumption | exact up_s | (rw [up_n (by omega)]; first | assumption | exact up_s | (rw [up_n (by omega)]; first | assumption | exact up_s | (rw [up_n (by omega)]; first | assumption | exact up_s | (rw [up_n (by omega)]; first | assumption | exact up_s | (rw [up_n (by omega)]; first | assumption | exact up_s | (rw [up_n (by omega)]; first | assumption | exact up_s | (rw [up_n (by omega)]; first | assumption | exact up_s | (rw [up_n (by omega)]; first | assumption | exact up_s)))))))))))) rfl 3 (by decide) (hq _ q582 rfl) (fun _ h9 => h9) (by rfl) dX7_endOfSewing_29 ?_
    refine lv_i2d hx hb dX7_endOfSewing_32 ?_
    refine lv_ldc2d hx hb hown (hq _ q412 rfl) dX7_endOfSewing_33 ?_
    refine lv_dmul hx hb dX7_endOfSewing_36 hok.1 ?_
    refine lv_aload_n hx hb dX7_endOfSewing_37 rfl (hL.at 2 rfl) ?_
    refine k_getN (ci := 3) (C := RX1) (T := TX1) (N := 2) hx hb hts w_RX1 hown hK hW (by first | assumption | exact up_s | (rw [up_n (by omega)]; first | assumption | exact up_s | (rw [up_n (by omega)]; first | assumption | exact up_s | (rw [up_n (by omega)]; first | assumption | exact up_s | (rw [up_n (by omega)]; first | assumption | exact up_s | (rw [up_n (by omega)]; first | assumption | exact up_s | (rw [up_n (by omega)]; first | assumption | exact up_s | (rw [up_n (by omega)]; first | assumption | exact up_s | (rw [up_n (by omega)]; first | assumption | exact up_s | (rw [up_n (by omega)]; first | assumption | exact up_s | (rw [up_n (by omega)]; first | assumption | exact up_s | (rw [up_n (by omega)]; first | assumption | exact up_s)))))))))))) rfl 0 (by decide) (hq _ q648 rfl) (fun _ h9 => h9) (by rfl) dX7_endOfSewing_38 ?_
    refine lv_f2d hx hb dX7_endOfSewing_41 hok.2.1 ?_
    refine lv_ddiv hx hb dX7_endOfSewing_42 hok.2.2.1 ?_
    refine lv_dadd hx hb dX7_endOfSewing_43 hok.2.2.2 ?_
    rw [hQ]
    exact k_dret hx hb hr hlocks hW hS (by omega) (by omega) dX7_endOfSewing_44 (⟨rfl, rfl, rfl⟩)

set_option maxHeartbeats 4000000 in
set_option maxRecDepth 100000 in
/-- TailorBench.costOf  -/
theorem c_costOf {l : Launch} {D : va_G} {cy : Nat → ClassId} {sad : Nat → Nat} {em : Nat} {s0 : State} {a0 : Array Value} (G : kG kSTR l D cy sad em s0 a0) {ad : Nat → Nat} {ct : Nat → Option va_E} {M : tM} (hm : RepC cy ad ct M) (ho : okM M) {jc : Nat} (hc : jc < mC M) (nd : UInt64) (hok : okCost (mcl M jc).2.2.2.2.2 nd) :
    KM l yX7_costOf [.code yX7_costOf prog_1_method_40_code 3 (some .int)] 1 30 0 0 [.ref (ad (16 + jc)), .double nd] D s0 ad ct (fun v ad' ct' => v = some (.int (fCost (mcl M jc).2.2.2.2.2 nd)) ∧ ad' = ad ∧ ct' = ct) := by
  refine KM.of G (by decide) (Nat.le_of_ble_eq_true rfl) (Nat.le_of_ble_eq_true rfl) ?_
  intro p e s m args below meth c ls Q hQ X hin hL hW hS
  obtain ⟨hx, hb, hr, hml, hown, hlocks, hts, hq, hK, hI⟩ := X
  have hC := hm.2.2.1 jc hc
  refine lv_aload_n hx hb dX7_costOf_0 rfl (hL.at 0 rfl) ?_
  refine k_getN (ci := 2) (C := RX0) (T := TX0) (N := 6) hx hb hts w_RX0 hown hK hW (by first | assumption | exact up_s | (rw [up_n (by omega)]; first | assumption | exact up_s | (rw [up_n (by omega)]; first | assumption | exact up_s | (rw [up_n (by omega)]; first | assumption | exact up_s | (rw [up_n (by omega)]; first | assumption | exact up_s | (rw [up_n (by omega)]; first | assumption | exact up_s | (rw [up_n (by omega)]; first | assumption | exact up_s | (rw [up_n (by omega)]; first | assumption | exact up_s | (rw [up_n (by omega)]; first | assumption | exact up_s | (rw [up_n (by omega)]; first | assumption | exact up_s | (rw [up_n (by omega)]; first | assumption | exact up_s | (rw [up_n (by omega)]; first | assumption | exact up_s)))))))))))) rfl 2 (by decide) (hq _ q477 rfl) (fun _ h9 => h9) (by rfl) dX7_costOf_1 ?_
  refine lv_i2d hx hb dX7_costOf_4 ?_
  refine lv_dload_n hx hb dX7_costOf_5 rfl (hL.at 1 rfl) ?_
  refine lv_dmul hx hb dX7_costOf_6 hok.1 ?_
  refine lv_ldc2d hx hb hown (hq _ q725 rfl) dX7_costOf_7 ?_
  refine lv_ddiv hx hb dX7_costOf_10 hok.2 ?_
  refine k_callS hx hb hml hown hts hI hS hW hL.1 (c_nextWhole G _) (m4 (gT_in q726 rfl) (gT_in q402 rfl) (gT_in q55 rfl) (gT_in q403 rfl)) (show kpar yX7_nextWhole 1 from ⟨by decide, by decide, by decide +kernel⟩) ⟨by decide, by decide⟩ (by show _ ≤ (0 : Nat); omega) (by show _ ≤ (0 : Nat); omega) rfl (by decide) dX7_costOf_11 (fun v ad11 ct11 H locs hp hW hS => ?_)
  obtain ⟨rfl, h1, h2⟩ := hp
  rw [h1, h2] at hW
  refine lv_d2i hx hb dX7_costOf_14 ?_
  rw [hQ]
  exact k_iret hx hb hr hlocks hW hS (by omega) (by omega) dX7_costOf_15 (⟨rfl, rfl, rfl⟩)

set_option maxHeartbeats 4000000 in
set_option maxRecDepth 100000 in
/-- TailorBench$Table.waste  -/
theorem c_waste {l : Launch} {D : va_G} {cy : Nat → ClassId} {sad : Nat → Nat} {em : Nat} {s0 : State} {a0 : Array Value} (G : kG kSTR l D cy sad em s0 a0) {ad : Nat → Nat} {ct : Nat → Option va_E} {tb : tTb} {fl fw fh fr : Nat → UInt64} (hT : RepT cy ad ct tb fl fw fh fr) (hok : okWst tb.2.2.2.1 tb.2.2.2.2.1 tb.2.2.2.2.2.1) :
    KM l yX6_waste [.code yX6_waste prog_8_method_3_code 3 (some .double)] 0 0 0 0 [.ref (ad 7)] D s0 ad ct (fun v ad' ct' => v = some (.double (fWaste tb.2.2.2.1 tb.2.2.2.2.1 tb.2.2.2.2.2.1)) ∧ ad' = ad ∧ ct' = ct) := by
  refine KM.of G (by decide) (Nat.le_of_ble_eq_true rfl) (Nat.le_of_ble_eq_true rfl) ?_
  intro p e s m args below meth c ls Q hQ X hin hL hW hS
  obtain ⟨hx, hb, hr, hml, hown, hlocks, hts, hq, hK, hI⟩ := X
  obtain ⟨t7, t8, t9, t10, t11⟩ := id hT
  refine lv_aload_n hx hb dX6_waste_0 rfl (hL.at 0 rfl) ?_
  refine k_get (ci := 8) (C := RX6) (T := TX6) (N := 11) hx hb hts w_RX6 hown hK hW (by first | assumption | exact up_s | (rw [up_n (by omega)]; first | assumption | exact up_s | (rw [up_n (by omega)]; first | assumption | exact up_s | (rw [up_n (by omega)]; first | assumption | exact up_s | (rw [up_n (by omega)]; first | assumption | exact up_s | (rw [up_n (by omega)]; first | assumption | exact up_s | (rw [up_n (by omega)]; first | assumption | exact up_s | (rw [up_n (by omega)]; first | assumption | exact up_s | (rw [up_n (by omega)]; first | assumption | exact up_s | (rw [up_n (by omega)]; first | assumption | exact up_s | (rw [up_n (by omega)]; first | assumption | exact up_s | (rw [up_n (by omega)]; first | assumption | exact up_s)))))))))))) rfl 7 (by decide) (hq _ q120 rfl) (fun _ h9 => h9) (by rfl) dX6_waste_1 ?_
  refine lv_aload_n hx hb dX6_waste_4 rfl (hL.at 0 rfl) ?_
  refine k_get (ci := 8) (C := RX6) (T := TX6) (N := 11) hx hb hts w_RX6 hown hK hW (by first | assumption | exact up_s | (rw [up_n (by omega)]; first | assumption | exact up_s | (rw [up_n (by omega)]; first | assumption | exact up_s | (rw [up_n (by omega)]; first | assumption | exact up_s | (rw [up_n (by omega)]; first | assumption | exact up_s | (rw [up_n (by omega)]; first | assumption | exact up_s | (rw [up_n (by omega)]; first | assumption | exact up_s | (rw [up_n (by omega)]; first | assumption | exact up_s | (rw [up_n (by omega)]; first | assumption | exact up_s | (rw [up_n (by omega)]; first | assumption | exact up_s | (rw [up_n (by omega)]; first | assumption | exact up_s | (rw [up_n (by omega)]; first | assumption | exact up_s)))))))))))) rfl 9 (by decide) (hq _ q123 rfl) (fun _ h9 => h9) (by rfl) dX6_waste_5 ?_
  refine lv_dmul hx hb dX6_waste_8 hok.2.1 ?_
  refine k_dst_n hx hb hL (i := 1) rfl (by decide) dX6_waste_9 (fun ls hL => ?_)
  refine lv_dload_n hx hb dX6_waste_10 rfl (hL.at 1 rfl) ?_
  refine lv_dconst0 hx hb dX6_waste_11 ?_
  refine lv_dcmp hx hb dX6_waste_12 ?_
  refine lv_if_le (tgt := 27) hx hb dX6_waste_13 (by decide) (fun c13 => ?_) (fun c13 => ?_)
  · rw [cl_le] at c13
    exact absurd hok.1 c13
  · rw [cl_le] at c13
    refine lv_dconst1 hx hb dX6_waste_16 ?_
    refine lv_aload_n hx hb dX6_waste_17 rfl (hL.at 0 rfl) ?_
    refine k_get (ci := 8) (C := RX6) (T := TX6) (N := 11) hx hb hts w_RX6 hown hK hW (by first | assumption | exact up_s | (rw [up_n (by omega)]; first | assumption | exact up_s | (rw [up_n (by omega)]; first | assumption | exact up_s | (rw [up_n (by omega)]; first | assumption | exact up_s | (rw [up_n (by omega)]; first | assumption | exact up_s | (rw [up_n (by omega)]; first | assumption | exact up_s | (rw [up_n (by omega)]; first | assumption | exact up_s | (rw [up_n (by omega)]; first | assumption | exact up_s | (rw [up_n (by omega)]; first | assumption | exact up_s | (rw [up_n (by omega)]; first | assumption | exact up_s | (rw [up_n (by omega)]; first | assumption | exact up_s | (rw [up_n (by omega)]; first | assumption | exact up_s)))))))))))) rfl 8 (by decide) (hq _ q122 rfl) (fun _ h9 => h9) (by rfl) dX6_waste_18 ?_
    refine lv_dload_n hx hb dX6_waste_21 rfl (hL.at 1 rfl) ?_
    refine lv_ddiv hx hb dX6_waste_22 hok.2.2.1 ?_
    refine lv_dsub hx hb dX6_waste_23 hok.2.2.2 ?_
    refine lv_goto (tgt := 28) hx hb dX6_waste_24 (by decide) ?_
    rw [hQ]
    exact k_dret hx hb hr hlocks hW hS (by omega) (by omega) dX6_waste_28 (⟨rfl, rfl, rfl⟩)

set_option maxHeartbeats 4000000 in
set_option maxRecDepth 100000 in
/-- TailorBench$Order.tightness  -/
theorem c_tight {l : Launch} {D : va_G} {cy : Nat → ClassId} {sad : Nat → Nat} {em : Nat} {s0 : State} {a0 : Array Value} (G : kG kSTR l D cy sad em s0 a0) {ad : Nat → Nat} {ct : Nat → Option va_E} {M : tM} (hm : RepC cy ad ct M) (ho : okM M) {i : Nat} (hi : i < mO M) (bt : Bool) (hno : oState (mod M i) ≠ 0 → ∀ j, j < (mst M (oS (mod M i))).1 → vf_n64 (fGap M i j)) :
    KM l yX2_tightness [.code yX2_tightness prog_4_method_3_code 7 (some .double)] 3 64 0 0 [.ref (ad (64 + i)), .int (if bt then 1 else 0)] D s0 ad ct (fun v ad' ct' => v = some (.double (fTgt M i bt)) ∧ ad' = ad ∧ ct' = ct) := by
  refine KM.of G (by decide) (Nat.le_of_ble_eq_true rfl) (Nat.le_of_ble_eq_true rfl) ?_
  intro p e s m args below meth c ls Q hQ X hin hL hW hS
  obtain ⟨hx, hb, hr, hml, hown, hlocks, hts, hq, hK, hI⟩ := X
  obtain ⟨oo, ob, os, oa, op, ow, oms, o5, ok, opos, ost⟩ := hm.ord ho hi
  refine lv_dconst0 hx hb dX2_tightness_0 ?_
  refine k_dst_n hx hb hL (i := 2) rfl (by decide) dX2_tightness_1 (fun ls hL => ?_)
  refine lv_aload_n hx hb dX2_tightness_2 rfl (hL.at 0 rfl) ?_
  refine k_get (ci := 4) (C := RX2) (T := TX2) (N := 10) hx hb hts w_RX2 hown hK hW (by first | assumption | exact up_s | (rw [up_n (by omega)]; first | assumption | exact up_s | (rw [up_n (by omega)]; first | assumption | exact up_s | (rw [up_n (by omega)]; first | assumption | exact up_s | (rw [up_n (by omega)]; first | assumption | exact up_s | (rw [up_n (by omega)]; first | assumption | exact up_s | (rw [up_n (by omega)]; first | assumption | exact up_s | (rw [up_n (by omega)]; first | assumption | exact up_s | (rw [up_n (by omega)]; first | assumption | exact up_s | (rw [up_n (by omega)]; first | assumption | exact up_s | (rw [up_n (by omega)]; first | assumption | exact up_s | (rw [up_n (by omega)]; first | assumption | exact up_s)))))))))))) rfl 4 (by decide) (hq _ q678 rfl) (fun _ h9 => h9) (by rfl) dX2_tightness_3 ?_
  refine lv_if_ne (tgt := 11) hx hb dX2_tightness_6 (by decide) (fun c6 => ?_) (fun c6 => ?_)
  · try simp only [b2_eq, Decidable.not_not] at c6
    try dsimp only at c6
    have hs0 : oState (mod M i) ≠ 0 := fun z => c6 (by rw [z]; rfl)
    refine lv_iconst (v := 0) hx hb dX2_tightness_11 (by decide) ?_
    refine k_ist hx hb hL (i := 4) (by decide) dX2_tightness_12 (fun ls hL => ?_)
    have loop14 : ∀ (nf : Nat) (j : Nat) (r : UInt64), (mst M (oS (mod M i))).1 - j < nf → j ≤ (mst M (oS (mod M i))).1 → fBest bt (fGap M i) ((mst M (oS (mod M i))).1 - j) j r = fTgt M i bt → ∀ (H : Heap) (locs : List Loc) (ls : Array Slot), kW D s0.heap.size ad ct H → va_S (kA s0) s.heap H locs → lvP ls 7 [some (.ref (ad (64 + i))), some (.int (if bt then 1 else 0)), some (.double r), none, some (.int (nI j)), none, none] → W p l e (krm 3 64 0 0) s m args below meth c H locs 0 0 Q (F0 m 14 ls []) := by
      intro nf
      induction nf with
      | zero => intro j r hms14; exact absurd hms14 (Nat.not_lt_zero _)
      | succ nf ih14 =>
        intro j r hms14 hj hl H locs ls hW hS hL
        refine lv_iload hx hb dX2_tightness_14 (hL.at 4 rfl) ?_
        refine lv_aload_n hx hb dX2_tightness_16 rfl (hL.at 0 rfl) ?_
        refine k_get (ci := 4) (C := RX2) (T := TX2) (N := 10) hx hb hts w_RX2 hown hK hW (by first | assumption | exact up_s | (rw [up_n (by omega)]; first | assumption | exact up_s | (rw [up_n (by omega)]; first | assumption | exact up_s | (rw [up_n (by omega)]; first | assumption | exact up_s | (rw [up_n (by omega)]; first | assumption | exact up_s | (rw [up_n (by omega)]; first | assumption | exact up_s | (rw [up_n (by omega)]; first | assumption | exact up_s | (rw [up_n (by omega)]; first | assumption | exact up_s | (rw [up_n (by omega)]; first | assumption | exact up_s | (rw [up_n (by omega)]; first | assumption | exact up_s | (rw [up_n (by omega)]; first | assumption | exact up_s | (rw [up_n (by omega)]; first | assumption | exact up_s)))))))))))) rfl 1 (by decide) (hq _ q672 rfl) (fun _ h9 => h9) (by rfl) dX2_tightness_17 ?_
        refine k_getN (ci := 7) (C := RX5) (T := TX5) (N := 5) hx hb hts w_RX5 hown hK hW (by first | assumption | exact up_s | (rw [up_n (by omega)]; first | assumption | exact up_s | (rw [up_n (by omega)]; first | assumption | exact up_s | (rw [up_n (by omega)]; first | assumption | exact up_s | (rw [up_n (by omega)]; first | assumption | exact up_s | (rw [up_n (by omega)]; first | assumption | exact up_s | (rw [up_n (by omega)]; first | assumption | exact up_s | (rw [up_n (by omega)]; first | assumption | exact up_s | (rw [up_n (by omega)]; first | assumption | exact up_s | (rw [up_n (by omega)]; first | assumption | exact up_s | (rw [up_n (by omega)]; first | assumption | exact up_s | (rw [up_n (by omega)]; first | assumption | exact up_s)))))))))))) rfl 2 (by decide) (hq _ q579 rfl) (fun _ h9 => h9) (by rfl) dX2_tightness_20 ?_
        refine lv_icmp_ge (tgt := 88) hx hb dX2_tightness_23 (by decide) (fun c23 => ?_) (fun c23 => ?_)
        · try dsimp only at c23
          have ej : j = (mst M (oS (mod M i))).1 := by have := (nI_leI (by omega) (by omega)).mp c23; omega
          refine lv_dload_n hx hb dX2_tightness_88 rfl (hL.at 2 rfl) ?_
          rw [hQ]
          exact k_dret hx hb hr hlocks hW hS (by omega) (by omega) dX2_tightness_89 (⟨by rw [← hl, ej, Nat.sub_self]; rfl, rfl, rfl⟩)
        · try dsimp only at c23
          have hlt : j < (mst M (oS (mod M i))).1 := by
            rcases Nat.lt_or_ge j ((mst M (oS (mod M i))).1) with q | q
            · exact q
            · exact absurd (nI_le q (by omega)) c23
          refine lv_aload_n hx hb dX2_tightness_26 rfl (hL.at 0 rfl) ?_
          refine k_get (ci := 4) (C := RX2) (T := TX2) (N := 10) hx hb hts w_RX2 hown hK hW (by first | assumption | exact up_s | (rw [up_n (by omega)]; first | assumption | exact up_s | (rw [up_n (by omega)]; first | assumption | exact up_s | (rw [up_n (by omega)]; first | assumption | exact up_s | (rw [up_n (by omega)]; first | assumption | exact up_s | (rw [up_n (by omega)]; first | assumption | exact up_s | (rw [up_n (by omega)]; first | assumption | exact up_s | (rw [up_n (by omega)]; first | assumption | exact up_s | (rw [up_n (by omega)]; first | assumption | exact up_s | (rw [up_n (by omega)]; first | assumption | exact up_s | (rw [up_n (by omega)]; first | assumption | exact up_s | (rw [up_n (by omega)]; first | assumption | exact up_s)))))))))))) rfl 1 (by decide) (hq _ q672 rfl) (fun _ h9 => h9) (by rfl) dX2_tightness_27 ?_
          refine k_getN (ci := 7) (C := RX5) (T := TX5) (N := 5) hx hb hts w_RX5 hown hK hW (by first | assumption | exact up_s | (rw [up_n (by omega)]; first | assumption | exact up_s | (rw [up_n (by omega)]; first | assumption | exact up_s | (rw [up_n (by omega)]; first | assumption | exact up_s | (rw [up_n (by omega)]; first | assumption | exact up_s | (rw [up_n (by omega)]; first | assumption | exact up_s | (rw [up_n (by omega)]; first | assumption | exact up_s | (rw [up_n (by omega)]; first | assumption | exact up_s | (rw [up_n (by omega)]; first | assumption | exact up_s | (rw [up_n (by omega)]; first | assumption | exact up_s | (rw [up_n (by omega)]; first | assumption | exact up_s | (rw [up_n (by omega)]; first | assumption | exact up_s)))))))))))) rfl 1 (by decide) (hq _ q576 rfl) (fun _ h9 => h9) (by rfl) dX2_tightness_30 ?_
          refine lv_iload hx hb dX2_tightness_33 (hL.at 4 rfl) ?_
          refine k_aald hx hb hK hW 9 (by first | assumption | exact up_s | (rw [up_n (by omega)]; first | assumption | exact up_s | (rw [up_n (by omega)]; first | assumption | exact up_s | (rw [up_n (by omega)]; first | assumption | exact up_s | (rw [up_n (by omega)]; first | assumption | exact up_s | (rw [up_n (by omega)]; first | assumption | exact up_s | (rw [up_n (by omega)]; first | assumption | exact up_s | (rw [up_n (by omega)]; first | assumption | exact up_s | (rw [up_n (by omega)]; first | assumption | exact up_s | (rw [up_n (by omega)]; first | assumption | exact up_s | (rw [up_n (by omega)]; first | assumption | exact up_s | (rw [up_n (by omega)]; first | assumption | exact up_s)))))))))))) rfl j (by omega) (by omega) rfl (kqs_at hlt) dX2_tightness_35 ?_
          refine lv_aload_n hx hb dX2_tightness_36 rfl (hL.at 0 rfl) ?_
          refine k_get (ci := 4) (C := RX2) (T := TX2) (N := 10) hx hb hts w_RX2 hown hK hW (by first | assumption | exact up_s | (rw [up_n (by omega)]; first | assumption | exact up_s | (rw [up_n (by omega)]; first | assumption | exact up_s | (rw [up_n (by omega)]; first | assumption | exact up_s | (rw [up_n (by omega)]; first | assumption | exact up_s | (rw [up_n (by omega)]; first | assumption | exact up_s | (rw [up_n (by omega)]; first | assumption | exact up_s | (rw [up_n (by omega)]; first | assumption | exact up_s | (rw [up_n (by omega)]; first | assumption | exact up_s | (rw [up_n (by omega)]; first | assumption | exact up_s | (rw [up_n (by omega)]; first | assumption | exact up_s | (rw [up_n (by omega)]; first | assumption | exact up_s)))))))))))) rfl 0 (by decide) (hq _ q669 rfl) (fun _ h9 => h9) (by rfl) dX2_tightness_37 ?_
          refine k_callVN (q := (RX4, TX4, 4)) (host := "TailorBench") hx hb hml hown hts hK hI hS hW hL.1 (op j hlt) rfl (c_bodyFor G (op j hlt) ow oms (ok j hlt)) (gT_in q344 rfl) (hq _ q340 rfl) (hq _ q77 rfl) (hq _ q342 rfl) (hq _ q5 rfl) (show kpar yX4_bodyFor 1 from ⟨by decide, by decide, by decide +kernel⟩) ⟨by decide, by decide⟩ (by show _ ≤ (0 : Nat); omega) (by show _ ≤ (0 : Nat); omega) rfl (by decide) dX2_tightness_40 (fun v ad40 ct40 H locs hp hW hS => ?_)
          obtain ⟨rfl, h1, h2⟩ := hp
          rw [h1, h2] at hW
          refine lv_aload_n hx hb dX2_tightness_43 rfl (hL.at 0 rfl) ?_
          refine k_get (ci := 4) (C := RX2) (T := TX2) (N := 10) hx hb hts w_RX2 hown hK hW (by first | assumption | exact up_s | (rw [up_n (by omega)]; first | assumption | exact up_s | (rw [up_n (by omega)]; first | assumption | exact up_s | (rw [up_n (by omega)]; first | assumption | exact up_s | (rw [up_n (by omega)]; first | assumption | exact up_s | (rw [up_n (by omega)]; first | assumption | exact up_s | (rw [up_n (by omega)]; first | assumption | exact up_s | (rw [up_n (by omega)]; first | assumption | exact up_s | (rw [up_n (by omega)]; first | assumption | exact up_s | (rw [up_n (by omega)]; first | assumption | exact up_s | (rw [up_n (by omega)]; first | assumption | exact up_s | (rw [up_n (by omega)]; first | assumption | exact up_s)))))))))))) rfl 3 (by decide) (hq _ q677 rfl) (fun _ h9 => h9) (by rfl) dX2_tightness_44 ?_
          refine lv_iload hx hb dX2_tightness_47 (hL.at 4 rfl) ?_
          refine k_dald hx hb hK hW (by first | assumption | exact up_s | (rw [up_n (by omega)]; first | assumption | exact up_s | (rw [up_n (by omega)]; first | assumption | exact up_s | (rw [up_n (by omega)]; first | assumption | exact up_s | (rw [up_n (by omega)]; first | assumption | exact up_s | (rw [up_n (by omega)]; first | assumption | exact up_s | (rw [up_n (by omega)]; first | assumption | exact up_s | (rw [up_n (by omega)]; first | assumption | exact up_s | (rw [up_n (by omega)]; first | assumption | exact up_s | (rw [up_n (by omega)]; first | assumption | exact up_s | (rw [up_n (by omega)]; first | assumption | exact up_s | (rw [up_n (by omega)]; first | assumption | exact up_s)))))))))))) j (by omega) (by omega) rfl dX2_tightness_49 ?_
          refine lv_dsub hx hb dX2_tightness_50 (hno hs0 j hlt) ?_
          refine k_dst hx hb hL (i := 5) (by decide) dX2_tightness_51 (fun ls hL => ?_)
          refine lv_iload hx hb dX2_tightness_53 (hL.at 4 rfl) ?_
          refine lv_if_eq (tgt := 79) hx hb dX2_tightness_55 (by decide) (fun c55 => ?_) (fun c55 => ?_)
          · try simp only [b2_eq, Decidable.not_not] at c55
            try dsimp only at c55
            have e0 : j = 0 := by
              rcases Nat.eq_zero_or_pos j with q | q
              · exact q
              · exact absurd c55 (nI_ne0 q (by omega))
            have hB : ∀ d, fBest bt (fGap M i) (d + 1) j r = fBest bt (fGap M i) d (j + 1) (fGap M i j) := fun d => by rw [e0]; exact fBest_0
            refine lv_dload hx hb dX2_tightness_79 (hL.at 5 rfl) ?_
            refine k_dst_n hx hb hL (i := 2) rfl (by decide) dX2_tightness_81 (fun ls hL => ?_)
            refine k_iinc hx hb hL (i := 4) rfl (by decide) dX2_tightness_82 (fun ls hL => ?_)
            refine lv_goto (tgt := 14) hx hb dX2_tightness_85 (by decide) ?_
            rw [show nI j + Int32.ofInt 1 = nI (j + 1) from nI_1 j] at hL
            exact ih14 (j + 1) _ (by omega) (by omega) (by rw [← hl, show (mst M (oS (mod M i))).1 - j = ((mst M (oS (mod M i))).1 - (j + 1)) + 1 by omega]; exact (hB _).symm) _ _ _ hW hS (hL.le (by repeat (first | exact kle_nil | refine kle_same ?_ | refine kle_drop ?_)))
          · try simp only [b2_eq, Decidable.not_not] at c55
            try dsimp only at c55
            have hj0 : ¬ j = 0 := fun z => c55 (by rw [z]; rfl)
            refine lv_iload_n hx hb dX2_tightness_58 rfl (hL.at 1 rfl) ?_
            refine lv_if_eq (tgt := 72) hx hb dX2_tightness_59 (by decide) (fun c59 => ?_) (fun c59 => ?_)
            · try dsimp only at c59
              have hbt : bt = false := by cases bt <;> first | rfl | exact absurd c59 (by decide)
              refine lv_dload hx hb dX2_tightness_72 (hL.at 5 rfl) ?_
              refine lv_dload_n hx hb dX2_tightness_74 rfl (hL.at 2 rfl) ?_
              refine lv_dcmp hx hb dX2_tightness_75 ?_
              refine lv_if_ge (tgt := 82) hx hb dX2_tightness_76 (by decide) (fun c76 => ?_) (fun c76 => ?_)
              · rw [cg_ge] at c76
                have hB : ∀ d, fBest bt (fGap M i) (d + 1) j r = fBest bt (fGap M i) d (j + 1) r := fun d => fBest_n hj0 (by rw [hbt]; exact c76)
                refine k_iinc hx hb hL (i := 4) rfl (by decide) dX2_tightness_82 (fun ls hL => ?_)
                refine lv_goto (tgt := 14) hx hb dX2_tightness_85 (by decide) ?_
                rw [show nI j + Int32.ofInt 1 = nI (j + 1) from nI_1 j] at hL
                exact ih14 (j + 1) _ (by omega) (by omega) (by rw [← hl, show (mst M (oS (mod M i))).1 - j = ((mst M (oS (mod M i))).1 - (j + 1)) + 1 by omega]; exact (hB _).symm) _ _ _ hW hS (hL.le (by repeat (first | exact kle_nil | refine kle_same ?_ | refine kle_drop ?_)))
              · rw [cg_ge] at c76
                have hB : ∀ d, fBest bt (fGap M i) (d + 1) j r = fBest bt (fGap M i) d (j + 1) (fGap M i j) := fun d => fBest_p (by rw [hbt]; exact Decidable.not_not.mp c76)
                refine lv_dload hx hb dX2_tightness_79 (hL.at 5 rfl) ?_
                refine k_dst_n hx hb hL (i := 2) rfl (by decide) dX2_tightness_81 (fun ls hL => ?_)
                refine k_iinc hx hb hL (i := 4) rfl (by decide) dX2_tightness_82 (fun ls hL => ?_)
                refine lv_goto (tgt := 14) hx hb dX2_tightness_85 (by decide) ?_
                rw [show nI j + Int32.ofInt 1 = nI (j + 1) from nI_1 j] at hL
                exact ih14 (j + 1) _ (by omega) (by omega) (by rw [← hl, show (mst M (oS (mod M i))).1 - j = ((mst M (oS (mod M i))).1 - (j + 1)) + 1 by omega]; exact (hB _).symm) _ _ _ hW hS (hL.le (by repeat (first | exact kle_nil | refine kle_same ?_ | refine kle_drop ?_)))
            · try dsimp only at c59
              have hbt : bt = true := by cases bt <;> first | rfl | exact absurd rfl c59
              refine lv_dload hx hb dX2_tightness_62 (hL.at 5 rfl) ?_
              refine lv_dload_n hx hb dX2_tightness_64 rfl (hL.at 2 rfl) ?_
              refine lv_dcmp hx hb dX2_tightness_65 ?_
              refine lv_if_le (tgt := 82) hx hb dX2_tightness_66 (by decide) (fun c66 => ?_) (fun c66 => ?_)
              · rw [cl_le] at c66
                have hB : ∀ d, fBest bt (fGap M i) (d + 1) j r = fBest bt (fGap M i) d (j + 1) r := fun d => fBest_n hj0 (by rw [hbt]; exact c66)
                refine k_iinc hx hb hL (i := 4) rfl (by decide) dX2_tightness_82 (fun ls hL => ?_)
                refine lv_goto (tgt := 14) hx hb dX2_tightness_85 (by decide) ?_
                rw [show nI j + Int32.ofInt 1 = nI (j + 1) from nI_1 j] at hL
                exact ih14 (j + 1) _ (by omega) (by omega) (by rw [← hl, show (mst M (oS (mod M i))).1 - j = ((mst M (oS (mod M i))).1 - (j + 1)) + 1 by omega]; exact (hB _).symm) _ _ _ hW hS (hL.le (by repeat (first | exact kle_nil | refine kle_same ?_ | refine kle_drop ?_)))
              · rw [cl_le] at c66
                have hB : ∀ d, fBest bt (fGap M i) (d + 1) j r = fBest bt (fGap M i) d (j + 1) (fGap M i j) := fun d => fBest_p (by rw [hbt]; exact Decidable.not_not.mp c66)
                refine lv_goto (tgt := 79) hx hb dX2_tightness_69 (by decide) ?_
                refine lv_dload hx hb dX2_tightness_79 (hL.at 5 rfl) ?_
                refine k_dst_n hx hb hL (i := 2) rfl (by decide) dX2_tightness_81 (fun ls hL => ?_)
                refine k_iinc hx hb hL (i := 4) rfl (by decide) dX2_tightness_82 (fun ls hL => ?_)
                refine lv_goto (tgt := 14) hx hb dX2_tightness_85 (by decide) ?_
                rw [show nI j + Int32.ofInt 1 = nI (j + 1) from nI_1 j] at hL
                exact ih14 (j + 1) _ (by omega) (by omega) (by rw [← hl, show (mst M (oS (mod M i))).1 - j = ((mst M (oS (mod M i))).1 - (j + 1)) + 1 by omega]; exact (hB _).symm) _ _ _ hW hS (hL.le (by repeat (first | exact kle_nil | refine kle_same ?_ | refine kle_drop ?_)))
    exact loop14 ((mst M (oS (mod M i))).1 + 1) 0 cD0 (by omega) (Nat.zero_le _) (by unfold fTgt; rw [if_neg hs0]; rfl) _ _ _ hW hS hL
  · try simp only [b2_eq, Decidable.not_not] at c6
    try dsimp only at c6
    have hs0 : oState (mod M i) = 0 := by
      rcases Nat.eq_zero_or_pos (oState (mod M i)) with q | q
      · exact q
      · exact absurd (nI_ne0 q (by omega)) (by first | exact c6 | exact fun z => z c6)
    refine lv_dload_n hx hb dX2_tightness_9 rfl (hL.at 2 rfl) ?_
    rw [hQ]
    exact k_dret hx hb hr hlocks hW hS (by omega) (by omega) dX2_tightness_10 (⟨by unfold fTgt; rw [if_pos hs0]; rfl, rfl, rfl⟩)

set_option maxHeartbeats 4000000 in
set_option maxRecDepth 100000 in
/-- TailorBench$Order.judge  -/
theorem c_judge {l : Launch} {D : va_G} {cy : Nat → ClassId} {sad : Nat → Nat} {em : Nat} {s0 : State} {a0 : Array Value} (G : kG kSTR l D cy sad em s0 a0) {ad : Nat → Nat} {ct : Nat → Option va_E} {M : tM} (hm : RepC cy ad ct M) (ho : okM M) {i : Nat} (hi : i < mO M) (hno : oState (mod M i) ≠ 0 → ∀ j, j < (mst M (oS (mod M i))).1 → vf_n64 (fGap M i j)) :
    KM l yX2_judge [.code yX2_judge prog_4_method_4_code 3 (some .int)] 4 90 0 0 [.ref (ad (64 + i))] D s0 ad ct (fun v ad' ct' => v = some (.int (fJudge M i)) ∧ ad' = ad ∧ ct' = ct) := by
  refine KM.of G (by decide) (Nat.le_of_ble_eq_true rfl) (Nat.le_of_ble_eq_true rfl) ?_
  intro p e s m args below meth c ls Q hQ X hin hL hW hS
  obtain ⟨hx, hb, hr, hml, hown, hlocks, hts, hq, hK, hI⟩ := X
  obtain ⟨oo, ob, os, oa, op, ow, oms, o5, ok, opos, ost⟩ := hm.ord ho hi
  refine lv_aload_n hx hb dX2_judge_0 rfl (hL.at 0 rfl) ?_
  refine lv_iconst (v := 1) hx hb dX2_judge_1 (by decide) ?_
  refine k_callV (q := (RX2, TX2, 10)) hx hb hml hown hts hK hI hS hW hL.1 (by first | assumption | exact up_s | (rw [up_n (by omega)]; first | assumption | exact up_s | (rw [up_n (by omega)]; first | assumption | exact up_s | (rw [up_n (by omega)]; first | assumption | exact up_s | (rw [up_n (by omega)]; first | assumption | exact up_s | (rw [up_n (by omega)]; first | assumption | exact up_s | (rw [up_n (by omega)]; first | assumption | exact up_s | (rw [up_n (by omega)]; first | assumption | exact up_s | (rw [up_n (by omega)]; first | assumption | exact up_s | (rw [up_n (by omega)]; first | assumption | exact up_s | (rw [up_n (by omega)]; first | assumption | exact up_s | (rw [up_n (by omega)]; first | assumption | exact up_s)))))))))))) rfl (c_tight G hm ho hi true hno) (m5 (gT_in q758 rfl) (gT_in q337 rfl) (gT_in q4 rfl) (gT_in q80 rfl) (gT_in q339 rfl)) rfl (show kpar yX2_tightness 1 from ⟨by decide, by decide, by decide +kernel⟩) ⟨by decide, by decide⟩ (by show _ ≤ (0 : Nat); omega) (by show _ ≤ (0 : Nat); omega) rfl (by decide) dX2_judge_2 (fun v ad2 ct2 H locs hp hW hS => ?_)
  obtain ⟨rfl, h1, h2⟩ := hp
  rw [h1, h2] at hW
  refine k_dst_n hx hb hL (i := 1) rfl (by decide) dX2_judge_5 (fun ls hL => ?_)
  refine lv_dload_n hx hb dX2_judge_6 rfl (hL.at 1 rfl) ?_
  refine lv_ldc2d hx hb hown (hq _ q759 rfl) dX2_judge_7 ?_
  refine lv_dcmp hx hb dX2_judge_10 ?_
  refine lv_if_le (tgt := 16) hx hb dX2_judge_11 (by decide) (fun c11 => ?_) (fun c11 => ?_)
  · rw [cl_le] at c11
    refine lv_dload_n hx hb dX2_judge_16 rfl (hL.at 1 rfl) ?_
    refine lv_ldc2d hx hb hown (hq _ q760 rfl) dX2_judge_17 ?_
    refine lv_dcmp hx hb dX2_judge_20 ?_
    refine lv_if_le (tgt := 26) hx hb dX2_judge_21 (by decide) (fun c21 => ?_) (fun c21 => ?_)
    · rw [cl_le] at c21
      refine lv_aload_n hx hb dX2_judge_26 rfl (hL.at 0 rfl) ?_
      refine lv_iconst (v := 0) hx hb dX2_judge_27 (by decide) ?_
      refine k_callV (q := (RX2, TX2, 10)) hx hb hml hown hts hK hI hS hW hL.1 (by first | assumption | exact up_s | (rw [up_n (by omega)]; first | assumption | exact up_s | (rw [up_n (by omega)]; first | assumption | exact up_s | (rw [up_n (by omega)]; first | assumption | exact up_s | (rw [up_n (by omega)]; first | assumption | exact up_s | (rw [up_n (by omega)]; first | assumption | exact up_s | (rw [up_n (by omega)]; first | assumption | exact up_s | (rw [up_n (by omega)]; first | assumption | exact up_s | (rw [up_n (by omega)]; first | assumption | exact up_s | (rw [up_n (by omega)]; first | assumption | exact up_s | (rw [up_n (by omega)]; first | assumption | exact up_s | (rw [up_n (by omega)]; first | assumption | exact up_s)))))))))))) rfl (c_tight G hm ho hi false hno) (m5 (gT_in q758 rfl) (gT_in q337 rfl) (gT_in q4 rfl) (gT_in q80 rfl) (gT_in q339 rfl)) rfl (show kpar yX2_tightness 1 from ⟨by decide, by decide, by decide +kernel⟩) ⟨by decide, by decide⟩ (by show _ ≤ (0 : Nat); omega) (by show _ ≤ (0 : Nat); omega) rfl (by decide) dX2_judge_28 (fun v ad28 ct28 H locs hp hW hS => ?_)
      obtain ⟨rfl, h1, h2⟩ := hp
      rw [h1, h2] at hW
      refine lv_ldc2d hx hb hown (hq _ q761 rfl) dX2_judge_31 ?_
      refine lv_dcmp hx hb dX2_judge_34 ?_
      refine lv_if_ge (tgt := 42) hx hb dX2_judge_35 (by decide) (fun c35 => ?_) (fun c35 => ?_)
      · rw [cg_ge] at c35
        refine lv_iconst (v := 0) hx hb dX2_judge_42 (by decide) ?_
        rw [hQ]
        exact k_iret hx hb hr hlocks hW hS (by omega) (by omega) dX2_judge_43 (⟨by unfold fJudge; rw [if_neg c11, if_neg c21]; first | rw [if_neg c35] | rw [if_pos (Decidable.not_not.mp c35)], rfl, rfl⟩)
      · rw [cg_ge] at c35
        refine lv_iconst (v := 2) hx hb dX2_judge_38 (by decide) ?_
        refine lv_goto (tgt := 43) hx hb dX2_judge_39 (by decide) ?_
        rw [hQ]
        exact k_iret hx hb hr hlocks hW hS (by omega) (by omega) dX2_judge_43 (⟨by unfold fJudge; rw [if_neg c11, if_neg c21]; first | rw [if_neg c35] | rw [if_pos (Decidable.not_not.mp c35)], rfl, rfl⟩)
    · rw [cl_le] at c21
      refine lv_iconst (v := 1) hx hb dX2_judge_24 (by decide) ?_
      rw [hQ]
      exact k_iret hx hb hr hlocks hW hS (by omega) (by omega) dX2_judge_25 (⟨by unfold fJudge; rw [if_neg c11, if_pos (Decidable.not_not.mp c21)], rfl, rfl⟩)
  · rw [cl_le] at c11
    refine lv_iconst (v := 3) hx hb dX2_judge_14 (by decide) ?_
    rw [hQ]
    exact k_iret hx hb hr hlocks hW hS (by omega) (by omega) dX2_judge_15 (⟨by unfold fJudge; rw [if_pos (Decidable.not_not.mp c11)], rfl, rfl⟩)

set_option maxHeartbeats 4000000 in
set_option maxRecDepth 100000 in
/-- TailorBench$Order.keepCut  -/
theorem c_keepCut {l : Launch} {D : va_G} {cy : Nat → ClassId} {sad : Nat → Nat} {em : Nat} {s0 : State} {a0 : Array Value} (G : kG kSTR l D cy sad em s0 a0) {ad : Nat → Nat} {ct : Nat → Option va_E} {M : tM} (hm : RepC cy ad ct M) (ho : okM M) {i : Nat} (hi : i < mO M) (cc co : Int32) :
    KM l yX2_keepCut [.code yX2_keepCut prog_4_method_2_code 4 none] 3 64 0 0 [.ref (ad (64 + i)), .int cc, .int co] D s0 ad ct (fun v ad' ct' => v = none ∧ ad' = ad ∧ (∀ nd, ct' (64 + i) = some (oOr ad i (fCut M i cc co nd)) ∧ ct' (72 + i) = some (.inl (cy 0, 5, aD (oBod (fCut M i cc co nd))))) ∧ ∀ k, k ≠ 64 + i → k ≠ 72 + i → ct' k = ct k) := by
  refine KM.of G (by decide) (Nat.le_of_ble_eq_true rfl) (Nat.le_of_ble_eq_true rfl) ?_
  intro p e s m args below meth c ls Q hQ X hin hL hW hS
  obtain ⟨hx, hb, hr, hml, hown, hlocks, hts, hq, hK, hI⟩ := X
  have hbn := ho.1
  have q1 := (ho.2.2.2.2.2 i hi).1
  have q2 := (ho.2.2.2.2.2 i hi).2.1
  obtain ⟨oo, ob, os, oa, op, ow, oms, o5, ok, opos, ost⟩ := hm.ord ho hi
  refine lv_iconst (v := 0) hx hb dX2_keepCut_0 (by decide) ?_
  refine k_ist_n hx hb hL (i := 3) rfl (by decide) dX2_keepCut_1 (fun ls hL => ?_)
  have loop2 : ∀ (nf : Nat) (j : Nat) (bd : Nat → UInt64) (ct1 : Nat → Option va_E), (mst M (oS (mod M i))).1 - j < nf → j ≤ (mst M (oS (mod M i))).1 → fKp (fGot M i) ((mst M (oS (mod M i))).1 - j) j bd = fKp (fGot M i) (mst M (oS (mod M i))).1 0 (oBod (mod M i)) → ct1 (72 + i) = some (.inl (cy 0, 5, aD bd)) → (∀ k, k ≠ 72 + i → ct1 k = ct k) → ∀ (H : Heap) (locs : List Loc) (ls : Array Slot), kW D s0.heap.size ad ct1 H → va_S (kA s0) s.heap H locs → lvP ls 4 [some (.ref (ad (64 + i))), some (.int cc), some (.int co), some (.int (nI j))] → W p l e (krm 3 64 0 0) s m args below meth c H locs 0 0 Q (F0 m 2 ls []) := by
    intro nf
    induction nf with
    | zero => intro j bd ct1 hms2; exact absurd hms2 (Nat.not_lt_zero _)
    | succ nf ih2 =>
      intro j bd ct1 hms2 hj hl hbd hkd H locs ls hW hS hL
      have oo1 := (hkd _ (by omega)).trans oo
      have os1 := (hkd _ (by omega)).trans os
      have oa1 := (hkd _ (by omega)).trans oa
      have ow1 := (hkd _ (by omega)).trans ow
      refine lv_iload_n hx hb dX2_keepCut_2 rfl (hL.at 3 rfl) ?_
      refine lv_aload_n hx hb dX2_keepCut_3 rfl (hL.at 0 rfl) ?_
      refine k_get (ci := 4) (C := RX2) (T := TX2) (N := 10) hx hb hts w_RX2 hown hK hW (by first | assumption | exact up_s | (rw [up_n (by omega)]; first | assumption | exact up_s | (rw [up_n (by omega)]; first | assumption | exact up_s | (rw [up_n (by omega)]; first | assumption | exact up_s | (rw [up_n (by omega)]; first | assumption | exact up_s | (rw [up_n (by omega)]; first | assumption | exact up_s | (rw [up_n (by omega)]; first | assumption | exact up_s | (rw [up_n (by omega)]; first | assumption | exact up_s | (rw [up_n (by omega)]; first | assumption | exact up_s | (rw [up_n (by omega)]; first | assumption | exact up_s | (rw [up_n (by omega)]; first | assumption | exact up_s | (rw [up_n (by omega)]; first | assumption | exact up_s)))))))))))) rfl 1 (by decide) (hq _ q672 rfl) (fun _ h9 => h9) (by rfl) dX2_keepCut_4 ?_
      refine k_getN (ci := 7) (C := RX5) (T := TX5) (N := 5) hx hb hts w_RX5 hown hK hW (by first | assumption | exact up_s | (rw [up_n (by omega)]; first | assumption | exact up_s | (rw [up_n (by omega)]; first | assumption | exact up_s | (rw [up_n (by omega)]; first | assumption | exact up_s | (rw [up_n (by omega)]; first | assumption | exact up_s | (rw [up_n (by omega)]; first | assumption | exact up_s | (rw [up_n (by omega)]; first | assumption | exact up_s | (rw [up_n (by omega)]; first | assumption | exact up_s | (rw [up_n (by omega)]; first | assumption | exact up_s | (rw [up_n (by omega)]; first | assumption | exact up_s | (rw [up_n (by omega)]; first | assumption | exact up_s | (rw [up_n (by omega)]; first | assumption | exact up_s)))))))))))) rfl 2 (by decide) (hq _ q579 rfl) (fun _ h9 => h9) (by rfl) dX2_keepCut_7 ?_
      refine lv_icmp_ge (tgt := 41) hx hb dX2_keepCut_10 (by decide) (fun c10 => ?_) (fun c10 => ?_)
      · try dsimp only at c10
        have ej : j = (mst M (oS (mod M i))).1 := by have := (nI_leI (by omega) (by omega)).mp c10; omega
        refine lv_aload_n hx hb dX2_keepCut_41 rfl (hL.at 0 rfl) ?_
        refine lv_iload_n hx hb dX2_keepCut_42 rfl (hL.at 1 rfl) ?_
        refine k_put (ci := 4) (C := RX2) (T := TX2) (N := 10) (ty := tyX2 5) hx hb hts w_RX2 tyX2 tyX2_ok nmX2 hown hK hW hS (by first | assumption | exact up_s | (rw [up_n (by omega)]; first | assumption | exact up_s | (rw [up_n (by omega)]; first | assumption | exact up_s | (rw [up_n (by omega)]; first | assumption | exact up_s | (rw [up_n (by omega)]; first | assumption | exact up_s | (rw [up_n (by omega)]; first | assumption | exact up_s | (rw [up_n (by omega)]; first | assumption | exact up_s | (rw [up_n (by omega)]; first | assumption | exact up_s | (rw [up_n (by omega)]; first | assumption | exact up_s | (rw [up_n (by omega)]; first | assumption | exact up_s | (rw [up_n (by omega)]; first | assumption | exact up_s | (rw [up_n (by omega)]; first | assumption | exact up_s)))))))))))) (by omega) rfl 5 (by decide) (hq _ q680 rfl) (fun _ h9 => h9) rfl (by decide +kernel) rfl rfl (by first | exact Nat.le_of_ble_eq_true rfl | (simp only [List.length_set]; exact Nat.le_of_ble_eq_true rfl)) dX2_keepCut_43 (fun H locs hW hS => ?_)
        refine lv_aload_n hx hb dX2_keepCut_46 rfl (hL.at 0 rfl) ?_
        refine lv_iload_n hx hb dX2_keepCut_47 rfl (hL.at 2 rfl) ?_
        refine k_put (ci := 4) (C := RX2) (T := TX2) (N := 10) (ty := tyX2 6) hx hb hts w_RX2 tyX2 tyX2_ok nmX2 hown hK hW hS (by first | assumption | exact up_s | (rw [up_n (by omega)]; first | assumption | exact up_s | (rw [up_n (by omega)]; first | assumption | exact up_s | (rw [up_n (by omega)]; first | assumption | exact up_s | (rw [up_n (by omega)]; first | assumption | exact up_s | (rw [up_n (by omega)]; first | assumption | exact up_s | (rw [up_n (by omega)]; first | assumption | exact up_s | (rw [up_n (by omega)]; first | assumption | exact up_s | (rw [up_n (by omega)]; first | assumption | exact up_s | (rw [up_n (by omega)]; first | assumption | exact up_s | (rw [up_n (by omega)]; first | assumption | exact up_s | (rw [up_n (by omega)]; first | assumption | exact up_s)))))))))))) (by omega) rfl 6 (by decide) (hq _ q682 rfl) (fun _ h9 => h9) rfl (by decide +kernel) rfl rfl (by first | exact Nat.le_of_ble_eq_true rfl | (simp only [List.length_set]; exact Nat.le_of_ble_eq_true rfl)) dX2_keepCut_48 (fun H locs hW hS => ?_)
        refine lv_aload_n hx hb dX2_keepCut_51 rfl (hL.at 0 rfl) ?_
        refine lv_iconst (v := 1) hx hb dX2_keepCut_52 (by decide) ?_
        refine lv_topi (fun y hy => ?_)
        have hy2 : y = nI 1 := hy
        subst hy2
        refine k_put (ci := 4) (C := RX2) (T := TX2) (N := 10) (ty := tyX2 4) hx hb hts w_RX2 tyX2 tyX2_ok nmX2 hown hK hW hS (by first | assumption | exact up_s | (rw [up_n (by omega)]; first | assumption | exact up_s | (rw [up_n (by omega)]; first | assumption | exact up_s | (rw [up_n (by omega)]; first | assumption | exact up_s | (rw [up_n (by omega)]; first | assumption | exact up_s | (rw [up_n (by omega)]; first | assumption | exact up_s | (rw [up_n (by omega)]; first | assumption | exact up_s | (rw [up_n (by omega)]; first | assumption | exact up_s | (rw [up_n (by omega)]; first | assumption | exact up_s | (rw [up_n (by omega)]; first | assumption | exact up_s | (rw [up_n (by omega)]; first | assumption | exact up_s | (rw [up_n (by omega)]; first | assumption | exact up_s)))))))))))) (by omega) rfl 4 (by decide) (hq _ q678 rfl) (fun _ h9 => h9) rfl (by decide +kernel) rfl rfl (by first | exact Nat.le_of_ble_eq_true rfl | (simp only [List.length_set]; exact Nat.le_of_ble_eq_true rfl)) dX2_keepCut_53 (fun H locs hW hS => ?_)
        rw [hQ]
        exact k_vret hx hb hr hlocks hW hS (by omega) (by omega) dX2_keepCut_56 (⟨rfl, rfl, fun nd => ⟨up_s, by rw [up_n (by omega), up_n (by omega), up_n (by omega), hbd]; show some (Sum.inl (cy 0, 5, aD bd)) = some (Sum.inl (cy 0, 5, aD (fKp (fGot M i) (mst M (oS (mod M i))).1 0 (oBod (mod M i))))); rw [← hl, ej, Nat.sub_self]; rfl⟩, fun k a b => (up_n a).trans ((up_n a).trans ((up_n a).trans (hkd k b)))⟩)
      · try dsimp only at c10
        have hlt : j < (mst M (oS (mod M i))).1 := by
          rcases Nat.lt_or_ge j ((mst M (oS (mod M i))).1) with q | q
          · exact q
          · exact absurd (nI_le q (by omega)) c10
        refine lv_aload_n hx hb dX2_keepCut_13 rfl (hL.at 0 rfl) ?_
        refine k_get (ci := 4) (C := RX2) (T := TX2) (N := 10) hx hb hts w_RX2 hown hK hW (by first | assumption | exact up_s | (rw [up_n (by omega)]; first | assumption | exact up_s | (rw [up_n (by omega)]; first | assumption | exact up_s | (rw [up_n (by omega)]; first | assumption | exact up_s | (rw [up_n (by omega)]; first | assumption | exact up_s | (rw [up_n (by omega)]; first | assumption | exact up_s | (rw [up_n (by omega)]; first | assumption | exact up_s | (rw [up_n (by omega)]; first | assumption | exact up_s | (rw [up_n (by omega)]; first | assumption | exact up_s | (rw [up_n (by omega)]; first | assumption | exact up_s | (rw [up_n (by omega)]; first | assumption | exact up_s | (rw [up_n (by omega)]; first | assumption | exact up_s)))))))))))) rfl 3 (by decide) (hq _ q677 rfl) (fun _ h9 => h9) (by rfl) dX2_keepCut_14 ?_
        refine lv_iload_n hx hb dX2_keepCut_17 rfl (hL.at 3 rfl) ?_
        refine lv_aload_n hx hb dX2_keepCut_18 rfl (hL.at 0 rfl) ?_
        refine k_get (ci := 4) (C := RX2) (T := TX2) (N := 10) hx hb hts w_RX2 hown hK hW (by first | assumption | exact up_s | (rw [up_n (by omega)]; first | assumption | exact up_s | (rw [up_n (by omega)]; first | assumption | exact up_s | (rw [up_n (by omega)]; first | assumption | exact up_s | (rw [up_n (by omega)]; first | assumption | exact up_s | (rw [up_n (by omega)]; first | assumption | exact up_s | (rw [up_n (by omega)]; first | assumption | exact up_s | (rw [up_n (by omega)]; first | assumption | exact up_s | (rw [up_n (by omega)]; first | assumption | exact up_s | (rw [up_n (by omega)]; first | assumption | exact up_s | (rw [up_n (by omega)]; first | assumption | exact up_s | (rw [up_n (by omega)]; first | assumption | exact up_s)))))))))))) rfl 1 (by decide) (hq _ q672 rfl) (fun _ h9 => h9) (by rfl) dX2_keepCut_19 ?_
        refine k_getN (ci := 7) (C := RX5) (T := TX5) (N := 5) hx hb hts w_RX5 hown hK hW (by first | assumption | exact up_s | (rw [up_n (by omega)]; first | assumption | exact up_s | (rw [up_n (by omega)]; first | assumption | exact up_s | (rw [up_n (by omega)]; first | assumption | exact up_s | (rw [up_n (by omega)]; first | assumption | exact up_s | (rw [up_n (by omega)]; first | assumption | exact up_s | (rw [up_n (by omega)]; first | assumption | exact up_s | (rw [up_n (by omega)]; first | assumption | exact up_s | (rw [up_n (by omega)]; first | assumption | exact up_s | (rw [up_n (by omega)]; first | assumption | exact up_s | (rw [up_n (by omega)]; first | assumption | exact up_s | (rw [up_n (by omega)]; first | assumption | exact up_s)))))))))))) rfl 1 (by decide) (hq _ q576 rfl) (fun _ h9 => h9) (by rfl) dX2_keepCut_22 ?_
        refine lv_iload_n hx hb dX2_keepCut_25 rfl (hL.at 3 rfl) ?_
        refine k_aald hx hb hK hW 9 (by first | assumption | exact up_s | (rw [up_n (by omega)]; first | assumption | exact up_s | (rw [up_n (by omega)]; first | assumption | exact up_s | (rw [up_n (by omega)]; first | assumption | exact up_s | (rw [up_n (by omega)]; first | assumption | exact up_s | (rw [up_n (by omega)]; first | assumption | exact up_s | (rw [up_n (by omega)]; first | assumption | exact up_s | (rw [up_n (by omega)]; first | assumption | exact up_s | (rw [up_n (by omega)]; first | assumption | exact up_s | (rw [up_n (by omega)]; first | assumption | exact up_s | (rw [up_n (by omega)]; first | assumption | exact up_s | (rw [up_n (by omega)]; first | assumption | exact up_s)))))))))))) rfl j (by omega) (by omega) rfl (kqs_at hlt) dX2_keepCut_26 ?_
        refine lv_aload_n hx hb dX2_keepCut_27 rfl (hL.at 0 rfl) ?_
        refine k_get (ci := 4) (C := RX2) (T := TX2) (N := 10) hx hb hts w_RX2 hown hK hW (by first | assumption | exact up_s | (rw [up_n (by omega)]; first | assumption | exact up_s | (rw [up_n (by omega)]; first | assumption | exact up_s | (rw [up_n (by omega)]; first | assumption | exact up_s | (rw [up_n (by omega)]; first | assumption | exact up_s | (rw [up_n (by omega)]; first | assumption | exact up_s | (rw [up_n (by omega)]; first | assumption | exact up_s | (rw [up_n (by omega)]; first | assumption | exact up_s | (rw [up_n (by omega)]; first | assumption | exact up_s | (rw [up_n (by omega)]; first | assumption | exact up_s | (rw [up_n (by omega)]; first | assumption | exact up_s | (rw [up_n (by omega)]; first | assumption | exact up_s)))))))))))) rfl 0 (by decide) (hq _ q669 rfl) (fun _ h9 => h9) (by rfl) dX2_keepCut_28 ?_
        refine k_callVN (q := (RX4, TX4, 4)) (host := "TailorBench") hx hb hml hown hts hK hI hS hW hL.1 ((hkd _ (by omega)).trans (op j hlt)) rfl (c_bodyFor G ((hkd _ (by omega)).trans (op j hlt)) ow1 oms (ok j hlt)) (gT_in q344 rfl) (hq _ q340 rfl) (hq _ q77 rfl) (hq _ q342 rfl) (hq _ q5 rfl) (show kpar yX4_bodyFor 1 from ⟨by decide, by decide, by decide +kernel⟩) ⟨by decide, by decide⟩ (by show _ ≤ (0 : Nat); omega) (by show _ ≤ (0 : Nat); omega) rfl (Nat.le_of_ble_eq_true rfl) dX2_keepCut_31 (fun v ad31 ct31 H locs hp hW hS => ?_)
        obtain ⟨rfl, h1, h2⟩ := hp
        rw [h1, h2] at hW
        refine k_dast hx hb hK hW hS (by first | assumption | exact up_s | (rw [up_n (by omega)]; first | assumption | exact up_s | (rw [up_n (by omega)]; first | assumption | exact up_s | (rw [up_n (by omega)]; first | assumption | exact up_s | (rw [up_n (by omega)]; first | assumption | exact up_s | (rw [up_n (by omega)]; first | assumption | exact up_s | (rw [up_n (by omega)]; first | assumption | exact up_s | (rw [up_n (by omega)]; first | assumption | exact up_s | (rw [up_n (by omega)]; first | assumption | exact up_s | (rw [up_n (by omega)]; first | assumption | exact up_s | (rw [up_n (by omega)]; first | assumption | exact up_s | (rw [up_n (by omega)]; first | assumption | exact up_s)))))))))))) (by omega) j (by omega) (by omega) rfl dX2_keepCut_34 (fun H locs hW hS => ?_)
        refine k_iinc hx hb hL (i := 3) rfl (by decide) dX2_keepCut_35 (fun ls hL => ?_)
        refine lv_goto (tgt := 2) hx hb dX2_keepCut_38 (by decide) ?_
        rw [show nI j + Int32.ofInt 1 = nI (j + 1) from nI_1 j] at hL
        exact ih2 (j + 1) _ _ (by omega) (by omega) (by rw [← hl, show (mst M (oS (mod M i))).1 - j = ((mst M (oS (mod M i))).1 - (j + 1)) + 1 by omega]; rfl) up_s (fun k hk => (up_n hk).trans (hkd k hk)) _ _ _ hW hS hL
  exact loop2 ((mst M (oS (mod M i))).1 + 1) 0 (oBod (mod M i)) ct (by omega) (Nat.zero_le _) rfl ob (fun _ _ => rfl) _ _ _ hW hS hL

set_option maxHeartbeats 4000000 in
set_option maxRecDepth 100000 in
/-- TailorBench.savedBy  -/
theorem c_savedBy {l : Launch} {D : va_G} {cy : Nat → ClassId} {sad : Nat → Nat} {em : Nat} {s0 : State} {a0 : Array Value} (G : kG kSTR l D cy sad em s0 a0) {ad : Nat → Nat} {ct : Nat → Option va_E} {M : tM} (hm : RepC cy ad ct M) (ho : okM M) {i : Nat} (hi : i < mO M) {i2 : Nat} (hi2 : i2 < mO M) {jc : Nat} (hc : jc < mC M) {tb : tTb} {fl fw fh fr : Nat → UInt64} (hT : RepT cy ad ct tb fl fw fh fr) {nb : Nat} (hN : okN nb M) :
    KM l yX7_savedBy [.code yX7_savedBy prog_1_method_39_code 8 (some .double)] 5 119 0 0 [.ref (ad 1), .ref (ad (64 + i)), .ref (ad (64 + i2)), .ref (ad (16 + jc))] D s0 ad ct (fun v ad' ct' => v = some (.double (fSaved M i i2 jc)) ∧ ad' = ad ∧ kOut ct ct' ∧ ∃ (tb : tTb) (fl fw fh fr : Nat → UInt64), RepT cy ad ct' tb fl fw fh fr) := by
  refine KM.of G (by decide) (Nat.le_of_ble_eq_true rfl) (Nat.le_of_ble_eq_true rfl) ?_
  intro p e s m args below meth c ls Q hQ X hin hL hW hS
  obtain ⟨hx, hb, hr, hml, hown, hlocks, hts, hq, hK, hI⟩ := X
  obtain ⟨t7, t8, t9, t10, t11⟩ := id hT
  have hs1 := hm.1
  refine lv_aload_n hx hb dX7_savedBy_0 rfl (hL.at 0 rfl) ?_
  refine k_get (ci := 9) (C := RX7) (T := TX7) (N := 15) hx hb hts w_RX7 hown hK hW (by first | assumption | exact up_s | (rw [up_n (by omega)]; first | assumption | exact up_s | (rw [up_n (by omega)]; first | assumption | exact up_s | (rw [up_n (by omega)]; first | assumption | exact up_s | (rw [up_n (by omega)]; first | assumption | exact up_s | (rw [up_n (by omega)]; first | assumption | exact up_s | (rw [up_n (by omega)]; first | assumption | exact up_s | (rw [up_n (by omega)]; first | assumption | exact up_s | (rw [up_n (by omega)]; first | assumption | exact up_s | (rw [up_n (by omega)]; first | assumption | exact up_s | (rw [up_n (by omega)]; first | assumption | exact up_s | (rw [up_n (by omega)]; first | assumption | exact up_s)))))))))))) rfl 5 (by decide) (hq _ q154 rfl) (fun _ h9 => h9) (by rfl) dX7_savedBy_1 ?_
  refine lv_aload_n hx hb dX7_savedBy_4 rfl (hL.at 1 rfl) ?_
  refine lv_aload_n hx hb dX7_savedBy_5 rfl (hL.at 2 rfl) ?_
  refine lv_aload_n hx hb dX7_savedBy_6 rfl (hL.at 3 rfl) ?_
  refine k_callVN (q := (RX6, TX6, 11)) (host := "TailorBench") hx hb hml hown hts hK hI hS hW hL.1 (by first | assumption | exact up_s | (rw [up_n (by omega)]; first | assumption | exact up_s | (rw [up_n (by omega)]; first | assumption | exact up_s | (rw [up_n (by omega)]; first | assumption | exact up_s | (rw [up_n (by omega)]; first | assumption | exact up_s | (rw [up_n (by omega)]; first | assumption | exact up_s | (rw [up_n (by omega)]; first | assumption | exact up_s | (rw [up_n (by omega)]; first | assumption | exact up_s | (rw [up_n (by omega)]; first | assumption | exact up_s | (rw [up_n (by omega)]; first | assumption | exact up_s | (rw [up_n (by omega)]; first | assumption | exact up_s | (rw [up_n (by omega)]; first | assumption | exact up_s)))))))))))) rfl (c_spread2 G hm ho hi hc hT hN hi2) (gT_in q365 rfl) (hq _ q362 rfl) (hq _ q56 rfl) (hq _ q364 rfl) (hq _ q7 rfl) (show kpar yX6_spread 3 from ⟨by decide, by decide, by decide +kernel⟩) ⟨by decide, by decide⟩ (by show _ ≤ (0 : Nat); omega) (by show _ ≤ (0 : Nat); omega) rfl (by decide) dX7_savedBy_7 (fun v ad7 ct7 H locs hp hW hS => ?_)
  obtain ⟨h1, hk7, ha7⟩ := hp
  rw [h1] at hW
  rcases ha7 with ⟨r7, fl7, fw7, fh7, fr7, e7, rfl, hT7⟩ | ⟨e7, rfl, tb7, fl7, fw7, fh7, fr7, hT7⟩
  · obtain ⟨⟨y1, e1⟩, ⟨y2, e2⟩⟩ := fSp2_each ho hN hi hi2 hc e7
    obtain ⟨t7, t8, t9, t10, t11⟩ := id hT7
    have hm7 := hm.out ho hk7
    have hs7 := hm7.1
    refine lv_if_ne (tgt := 15) hx hb dX7_savedBy_10 (by decide) (fun c10 => ?_) (fun c10 => ?_)
    · try dsimp only at c10
      refine lv_aload_n hx hb dX7_savedBy_15 rfl (hL.at 0 rfl) ?_
      refine k_get (ci := 9) (C := RX7) (T := TX7) (N := 15) hx hb hts w_RX7 hown hK hW (by first | assumption | exact up_s | (rw [up_n (by omega)]; first | assumption | exact up_s | (rw [up_n (by omega)]; first | assumption | exact up_s | (rw [up_n (by omega)]; first | assumption | exact up_s | (rw [up_n (by omega)]; first | assumption | exact up_s | (rw [up_n (by omega)]; first | assumption | exact up_s | (rw [up_n (by omega)]; first | assumption | exact up_s | (rw [up_n (by omega)]; first | assumption | exact up_s | (rw [up_n (by omega)]; first | assumption | exact up_s | (rw [up_n (by omega)]; first | assumption | exact up_s | (rw [up_n (by omega)]; first | assumption | exact up_s | (rw [up_n (by omega)]; first | assumption | exact up_s)))))))))))) rfl 5 (by decide) (hq _ q154 rfl) (fun _ h9 => h9) (by rfl) dX7_savedBy_16 ?_
      refine k_getN (ci := 8) (C := RX6) (T := TX6) (N := 11) hx hb hts w_RX6 hown hK hW (by first | assumption | exact up_s | (rw [up_n (by omega)]; first | assumption | exact up_s | (rw [up_n (by omega)]; first | assumption | exact up_s | (rw [up_n (by omega)]; first | assumption | exact up_s | (rw [up_n (by omega)]; first | assumption | exact up_s | (rw [up_n (by omega)]; first | assumption | exact up_s | (rw [up_n (by omega)]; first | assumption | exact up_s | (rw [up_n (by omega)]; first | assumption | exact up_s | (rw [up_n (by omega)]; first | assumption | exact up_s | (rw [up_n (by omega)]; first | assumption | exact up_s | (rw [up_n (by omega)]; first | assumption | exact up_s | (rw [up_n (by omega)]; first | assumption | exact up_s)))))))))))) rfl 7 (by decide) (hq _ q121 rfl) (fun _ h9 => h9) (by rfl) dX7_savedBy_19 ?_
      refine k_dst hx hb hL (i := 4) (by decide) dX7_savedBy_22 (fun ls hL => ?_)
      refine lv_aload_n hx hb dX7_savedBy_24 rfl (hL.at 0 rfl) ?_
      refine k_get (ci := 9) (C := RX7) (T := TX7) (N := 15) hx hb hts w_RX7 hown hK hW (by first | assumption | exact up_s | (rw [up_n (by omega)]; first | assumption | exact up_s | (rw [up_n (by omega)]; first | assumption | exact up_s | (rw [up_n (by omega)]; first | assumption | exact up_s | (rw [up_n (by omega)]; first | assumption | exact up_s | (rw [up_n (by omega)]; first | assumption | exact up_s | (rw [up_n (by omega)]; first | assumption | exact up_s | (rw [up_n (by omega)]; first | assumption | exact up_s | (rw [up_n (by omega)]; first | assumption | exact up_s | (rw [up_n (by omega)]; first | assumption | exact up_s | (rw [up_n (by omega)]; first | assumption | exact up_s | (rw [up_n (by omega)]; first | assumption | exact up_s)))))))))))) rfl 5 (by decide) (hq _ q154 rfl) (fun _ h9 => h9) (by rfl) dX7_savedBy_25 ?_
      refine lv_aload_n hx hb dX7_savedBy_28 rfl (hL.at 1 rfl) ?_
      refine lv_null hx hb dX7_savedBy_29 ?_
      refine lv_aload_n hx hb dX7_savedBy_30 rfl (hL.at 3 rfl) ?_
      refine k_callVN (q := (RX6, TX6, 11)) (host := "TailorBench") hx hb hml hown hts hK hI hS hW hL.1 (by first | assumption | exact up_s | (rw [up_n (by omega)]; first | assumption | exact up_s | (rw [up_n (by omega)]; first | assumption | exact up_s | (rw [up_n (by omega)]; first | assumption | exact up_s | (rw [up_n (by omega)]; first | assumption | exact up_s | (rw [up_n (by omega)]; first | assumption | exact up_s | (rw [up_n (by omega)]; first | assumption | exact up_s | (rw [up_n (by omega)]; first | assumption | exact up_s | (rw [up_n (by omega)]; first | assumption | exact up_s | (rw [up_n (by omega)]; first | assumption | exact up_s | (rw [up_n (by omega)]; first | assumption | exact up_s | (rw [up_n (by omega)]; first | assumption | exact up_s)))))))))))) rfl (c_spread1 G hm7 ho hi hc hT7 hN) (gT_in q365 rfl) (hq _ q362 rfl) (hq _ q56 rfl) (hq _ q364 rfl) (hq _ q7 rfl) (show kpar yX6_spread 3 from ⟨by decide, by decide, by decide +kernel⟩) ⟨by decide, by decide⟩ (by show _ ≤ (0 : Nat); omega) (by show _ ≤ (0 : Nat); omega) rfl (by decide) dX7_savedBy_31 (fun v ad31 ct31 H locs hp hW hS => ?_)
      obtain ⟨h1, hk31, ha31⟩ := hp
      rw [h1] at hW
      rcases ha31 with ⟨r31, fl31, fw31, fh31, fr31, e31, rfl, hT31⟩ | ⟨e31, -⟩
      rotate_left
      · rw [e1] at e31; cases e31
      obtain ⟨t7, t8, t9, t10, t11⟩ := id hT31
      have hm31 := hm7.out ho hk31
      have hs31 := hm31.1
      refine lv_pop hx hb dX7_savedBy_34 rfl ?_
      refine lv_aload_n hx hb dX7_savedBy_35 rfl (hL.at 0 rfl) ?_
      refine k_get (ci := 9) (C := RX7) (T := TX7) (N := 15) hx hb hts w_RX7 hown hK hW (by first | assumption | exact up_s | (rw [up_n (by omega)]; first | assumption | exact up_s | (rw [up_n (by omega)]; first | assumption | exact up_s | (rw [up_n (by omega)]; first | assumption | exact up_s | (rw [up_n (by omega)]; first | assumption | exact up_s | (rw [up_n (by omega)]; first | assumption | exact up_s | (rw [up_n (by omega)]; first | assumption | exact up_s | (rw [up_n (by omega)]; first | assumption | exact up_s | (rw [up_n (by omega)]; first | assumption | exact up_s | (rw [up_n (by omega)]; first | assumption | exact up_s | (rw [up_n (by omega)]; first | assumption | exact up_s | (rw [up_n (by omega)]; first | assumption | exact up_s)))))))))))) rfl 5 (by decide) (hq _ q154 rfl) (fun _ h9 => h9) (by rfl) dX7_savedBy_36 ?_
      refine k_getN (ci := 8) (C := RX6) (T := TX6) (N := 11) hx hb hts w_RX6 hown hK hW (by first | assumption | exact up_s | (rw [up_n (by omega)]; first | assumption | exact up_s | (rw [up_n (by omega)]; first | assumption | exact up_s | (rw [up_n (by omega)]; first | assumption | exact up_s | (rw [up_n (by omega)]; first | assumption | exact up_s | (rw [up_n (by omega)]; first | assumption | exact up_s | (rw [up_n (by omega)]; first | assumption | exact up_s | (rw [up_n (by omega)]; first | assumption | exact up_s | (rw [up_n (by omega)]; first | assumption | exact up_s | (rw [up_n (by omega)]; first | assumption | exact up_s | (rw [up_n (by omega)]; first | assumption | exact up_s | (rw [up_n (by omega)]; first | assumption | exact up_s)))))))))))) rfl 7 (by decide) (hq _ q121 rfl) (fun _ h9 => h9) (by rfl) dX7_savedBy_39 ?_
      refine k_dst hx hb hL (i := 6) (by decide) dX7_savedBy_42 (fun ls hL => ?_)
      refine lv_aload_n hx hb dX7_savedBy_44 rfl (hL.at 0 rfl) ?_
      refine k_get (ci := 9) (C := RX7) (T := TX7) (N := 15) hx hb hts w_RX7 hown hK hW (by first | assumption | exact up_s | (rw [up_n (by omega)]; first | assumption | exact up_s | (rw [up_n (by omega)]; first | assumption | exact up_s | (rw [up_n (by omega)]; first | assumption | exact up_s | (rw [up_n (by omega)]; first | assumption | exact up_s | (rw [up_n (by omega)]; first | assumption | exact up_s | (rw [up_n (by omega)]; first | assumption | exact up_s | (rw [up_n (by omega)]; first | assumption | exact up_s | (rw [up_n (by omega)]; first | assumption | exact up_s | (rw [up_n (by omega)]; first | assumption | exact up_s | (rw [up_n (by omega)]; first | assumption | exact up_s | (rw [up_n (by omega)]; first | assumption | exact up_s)))))))))))) rfl 5 (by decide) (hq _ q154 rfl) (fun _ h9 => h9) (by rfl) dX7_savedBy_45 ?_
      refine lv_aload_n hx hb dX7_savedBy_48 rfl (hL.at 2 rfl) ?_
      refine lv_null hx hb dX7_savedBy_49 ?_
      refine lv_aload_n hx hb dX7_savedBy_50 rfl (hL.at 3 rfl) ?_
      refine k_callVN (q := (RX6, TX6, 11)) (host := "TailorBench") hx hb hml hown hts hK hI hS hW hL.1 (by first | assumption | exact up_s | (rw [up_n (by omega)]; first | assumption | exact up_s | (rw [up_n (by omega)]; first | assumption | exact up_s | (rw [up_n (by omega)]; first | assumption | exact up_s | (rw [up_n (by omega)]; first | assumption | exact up_s | (rw [up_n (by omega)]; first | assumption | exact up_s | (rw [up_n (by omega)]; first | assumption | exact up_s | (rw [up_n (by omega)]; first | assumption | exact up_s | (rw [up_n (by omega)]; first | assumption | exact up_s | (rw [up_n (by omega)]; first | assumption | exact up_s | (rw [up_n (by omega)]; first | assumption | exact up_s | (rw [up_n (by omega)]; first | assumption | exact up_s)))))))))))) rfl (c_spread1 G hm31 ho hi2 hc hT31 hN) (gT_in q365 rfl) (hq _ q362 rfl) (hq _ q56 rfl) (hq _ q364 rfl) (hq _ q7 rfl) (show kpar yX6_spread 3 from ⟨by decide, by decide, by decide +kernel⟩) ⟨by decide, by decide⟩ (by show _ ≤ (0 : Nat); omega) (by show _ ≤ (0 : Nat); omega) rfl (by decide) dX7_savedBy_51 (fun v ad51 ct51 H locs hp hW hS => ?_)
      obtain ⟨h1, hk51, ha51⟩ := hp
      rw [h1] at hW
      rcases ha51 with ⟨r51, fl51, fw51, fh51, fr51, e51, rfl, hT51⟩ | ⟨e51, -⟩
      rotate_left
      · rw [e2] at e51; cases e51
      obtain ⟨t7, t8, t9, t10, t11⟩ := id hT51
      have hm51 := hm31.out ho hk51
      have hs51 := hm51.1
      refine lv_pop hx hb dX7_savedBy_54 rfl ?_
      refine lv_dload hx hb dX7_savedBy_55 (hL.at 6 rfl) ?_
      refine lv_aload_n hx hb dX7_savedBy_57 rfl (hL.at 0 rfl) ?_
      refine k_get (ci := 9) (C := RX7) (T := TX7) (N := 15) hx hb hts w_RX7 hown hK hW (by first | assumption | exact up_s | (rw [up_n (by omega)]; first | assumption | exact up_s | (rw [up_n (by omega)]; first | assumption | exact up_s | (rw [up_n (by omega)]; first | assumption | exact up_s | (rw [up_n (by omega)]; first | assumption | exact up_s | (rw [up_n (by omega)]; first | assumption | exact up_s | (rw [up_n (by omega)]; first | assumption | exact up_s | (rw [up_n (by omega)]; first | assumption | exact up_s | (rw [up_n (by omega)]; first | assumption | exact up_s | (rw [up_n (by omega)]; first | assumption | exact up_s | (rw [up_n (by omega)]; first | assumption | exact up_s | (rw [up_n (by omega)]; first | assumption | exact up_s)))))))))))) rfl 5 (by decide) (hq _ q154 rfl) (fun _ h9 => h9) (by rfl) dX7_savedBy_58 ?_
      refine k_getN (ci := 8) (C := RX6) (T := TX6) (N := 11) hx hb hts w_RX6 hown hK hW (by first | assumption | exact up_s | (rw [up_n (by omega)]; first | assumption | exact up_s | (rw [up_n (by omega)]; first | assumption | exact up_s | (rw [up_n (by omega)]; first | assumption | exact up_s | (rw [up_n (by omega)]; first | assumption | exact up_s | (rw [up_n (by omega)]; first | assumption | exact up_s | (rw [up_n (by omega)]; first | assumption | exact up_s | (rw [up_n (by omega)]; first | assumption | exact up_s | (rw [up_n (by omega)]; first | assumption | exact up_s | (rw [up_n (by omega)]; first | assumption | exact up_s | (rw [up_n (by omega)]; first | assumption | exact up_s | (rw [up_n (by omega)]; first | assumption | exact up_s)))))))))))) rfl 7 (by decide) (hq _ q121 rfl) (fun _ h9 => h9) (by rfl) dX7_savedBy_61 ?_
      refine lv_dadd hx hb dX7_savedBy_64 (sav_ok ho hN hi hi2 hc e7 e31 e51).1 ?_
      refine lv_dload hx hb dX7_savedBy_65 (hL.at 4 rfl) ?_
      refine lv_dsub hx hb dX7_savedBy_67 (sav_ok ho hN hi hi2 hc e7 e31 e51).2 ?_
      rw [hQ]
      exact k_dret hx hb hr hlocks hW hS (by omega) (by omega) dX7_savedBy_68 (⟨by rw [fSaved_so e7 e31 e51], rfl, (hk7.tr hk31).tr hk51, _, _, _, _, _, hT51⟩)
    · try dsimp only at c10
      exact absurd c10 (by decide)
  · refine lv_if_ne (tgt := 15) hx hb dX7_savedBy_10 (by decide) (fun c10 => ?_) (fun c10 => ?_)
    · try dsimp only at c10
      exact absurd c10 (by decide)
    · try dsimp only at c10
      refine lv_dconst0 hx hb dX7_savedBy_13 ?_
      rw [hQ]
      exact k_dret hx hb hr hlocks hW hS (by omega) (by omega) dX7_savedBy_14 (⟨by rw [fSaved_no e7]; rfl, rfl, hk7, _, _, _, _, _, hT7⟩)
