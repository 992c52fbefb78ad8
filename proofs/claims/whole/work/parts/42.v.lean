/-! the checksum -/
def f64 (x : UInt64) : Int64 := FP.d2l (FP.dmul cD64 x)
def fG0 (M : tM) : Nat → Nat → Int64 → Int64
  | 0, _, d => d
  | n + 1, w, d => fG0 M n (w + 1) (d * 31 + (fMany M w).toInt64)
def fG1 (cl : tCl) : Nat → Nat → Int64 → Int64
  | 0, _, d => d
  | n + 1, w, d => fG1 cl n (w + 1) (d * 31 + f64 (fOC cl w))
def fG2 (M : tM) : Nat → Nat → Int64 → Int64
  | 0, _, d => d
  | n + 1, i, d => fG2 M n (i + 1) (fG1 (mcl M i) 3 0 d)
def fG3 (M : tM) (i : Nat) : Nat → Nat → Int64 → Int64
  | 0, _, d => d
  | n + 1, w, d => fG3 M i n (w + 1) (d * 31 + (fOO M i w).toInt64)
def fG4 (M : tM) (i : Nat) : Nat → Nat → Int64 → Int64
  | 0, _, d => d
  | n + 1, k, d => fG4 M i n (k + 1) (d * 31 + f64 (fLayV M i none k 0))
def fG5 (M : tM) (i : Nat) (d : Int64) : Int64 := (((((fG3 M i 8 0 d) * 31 + f64 (fTgt M i true)) * 31 + f64 (fTgt M i false)) * 31 + f64 (oReady (mod M i))) * 31 + (fBs M i (mC M) 0 (-1) cD0).toInt64) * 31 + (fSn M i (mH M) 0 (-1) cD0).toInt64
def fG6 (M : tM) : Nat → Nat → Int64 → Int64
  | 0, _, d => d
  | n + 1, i, d => fG6 M n (i + 1) (fG4 M i (mC M) 0 (fG5 M i d))
def fG7 (M : tM) : Nat → Nat → Int64 → Int64
  | 0, _, d => d
  | n + 1, i, d => fG7 M n (i + 1) (d * 31 + f64 (mha M i).2)
def fDig (M : tM) : Int64 := fG7 M (mH M) 0 (fG6 M (mO M) 0 (fG2 M (mC M) 0 (fG0 M 14 0 58315))) * 31 + f64 (mClk M)
theorem in64_no {x : UInt64} (h : vf_n64 x) : vf_n64 (FP.dmul cD64 x) := by
  rw [show FP.dmul cD64 x = FP.dmul x cD64 from FP.Core.dmul_comm _ _]
  exact vf_of (FP.Core.dmul_out' (vf_to h) dP_c64.fin (fun z => absurd ((FP.Core.zero_bits2 _).mp z) (by decide +kernel)))
theorem fOC_no {M : tM} (ho : okM M) {nb jc wk : Nat} (hN : okN nb M) (hc : jc < mC M) (hw : wk < 3) : vf_n64 (fOC (mcl M jc) wk) := by
  rcases (show wk = 0 ∨ wk = 1 ∨ wk = 2 by omega) with rfl | rfl | rfl
  · exact vf_of (hN.1 jc hc).1.nn
  · exact vf_of (hN.1 jc hc).2.1.nn
  · exact fShr_no (by have := (ho.2.1 jc hc).1; omega)
theorem fBest_no {bt : Bool} {g : Nat → UInt64} {n : Nat} (h : ∀ j, j < n → vf_n64 (g j)) : ∀ (d i : Nat) (r : UInt64), i + d ≤ n → vf_n64 r → vf_n64 (fBest bt g d i r)
  | 0, i, r, _, hr => hr
  | d + 1, i, r, hi, hr => by
    show vf_n64 (fBest bt g d (i + 1) (if i = 0 ∨ FP.dcmp (g i) r = some (if bt then .gt else .lt) then g i else r))
    refine fBest_no h d (i + 1) _ (by omega) ?_
    by_cases q : i = 0 ∨ FP.dcmp (g i) r = some (if bt then .gt else .lt)
    · rw [if_pos q]; exact h i (by omega)
    · rw [if_neg q]; exact hr
theorem fTgt_no {M : tM} (ho : okM M) {nb i : Nat} (hN : okN nb M) (hi : i < mO M) (bt : Bool) : vf_n64 (fTgt M i bt) := by
  unfold fTgt
  by_cases q : oState (mod M i) = 0
  · rw [if_pos q]; exact vf_of dP_c0.nn
  · rw [if_neg q]; exact fBest_no (okGap ho hN hi q) _ 0 _ (by omega) (vf_of dP_c0.nn)
theorem cM1_no : vf_n64 cM1 := by unfold vf_n64; decide +kernel
theorem fRdy_no {M : tM} {nb i : Nat} (hN : okN nb M) (hi : i < mO M) : vf_n64 (oReady (mod M i)) := by
  rcases (hN.2.2.2 i hi).1 with q | q
  · rw [q]; exact cM1_no
  · exact vf_of q.nn
theorem fLayV_no {M : tM} (ho : okM M) {nb i jc : Nat} (hN : okN nb M) (hi : i < mO M) (hc : jc < mC M) : vf_n64 (fLayV M i none jc 0) := by
  cases e : fSpo M i none jc with
  | none => rw [fLayV_0 e]; exact cM1_no
  | some r => rw [fLayV_s e]; exact vf_of (fSpo_ok ho hN hi hc (fun _ z => by cases z) e).1.nn

set_option maxHeartbeats 16000000 in
set_option maxRecDepth 100000 in
/-- TailorBench.digest  -/
theorem c_digest {l : Launch} {D : va_G} {cy : Nat → ClassId} {sad : Nat → Nat} {em : Nat} {s0 : State} {a0 : Array Value} (G : kG kSTR l D cy sad em s0 a0) {ad : Nat → Nat} {ct : Nat → Option va_E} {M : tM} (hm : RepC cy ad ct M) (ho : okM M) {tb : tTb} {fl fw fh fr : Nat → UInt64} (hT : RepT cy ad ct tb fl fw fh fr) {nb : Nat} (hN : okN nb M) (hnb : nb ≤ 512) :
    KM l yX7_digest [.code yX7_digest prog_1_method_29_code 5 (some .long)] 6 150 0 0 [.ref (ad 1)] D s0 ad ct (fun v ad' ct' => v = some (.long (fDig M)) ∧ ad' = ad ∧ kOut ct ct' ∧ ∃ (tb : tTb) (fl fw fh fr : Nat → UInt64), RepT cy ad ct' tb fl fw fh fr) := by
  refine KM.of G (by decide) (Nat.le_of_ble_eq_true rfl) (Nat.le_of_ble_eq_true rfl) ?_
  intro p e s m args below meth c ls Q hQ X hin hL hW hS
  obtain ⟨hx, hb, hr, hml, hown, hlocks, hts, hq, hK, hI⟩ := X
  have hbn := ho.1
  have hs1 := hm.1
  replace hL := hL.nrm (l' := [some _, none, none, none, none]) rfl
  refine lv_ldc2 hx hb hown (hq _ q211 rfl) dX7_digest_0 ?_
  refine k_lst_n hx hb hL (i := 1) rfl (by decide) dX7_digest_3 (fun ls hL => ?_)
  replace hL := hL.nrm (l' := [some _, some _, none, none, none]) rfl
  refine lv_iconst (v := 0) hx hb dX7_digest_4 (by decide) ?_
  refine k_ist_n hx hb hL (i := 3) rfl (by decide) dX7_digest_5 (fun ls hL => ?_)
  replace hL := hL.nrm (l' := [some _, some _, none, some _, none]) rfl
  have loop6 : ∀ (nf : Nat) (w : Nat) (d0 : Int64), 14 - w < nf → w ≤ 14 → fG0 M (14 - w) w d0 = fG0 M 14 0 58315 → ∀ (H : Heap) (locs : List Loc) (ls : Array Slot), kW D s0.heap.size ad ct H → va_S (kA s0) s.heap H locs → lvP ls 5 [some (.ref (ad 1)), some (.long d0), none, some (.int (nI w)), none] → W p l e (krm 6 150 0 0) s m args below meth c H locs 0 0 Q (F0 m 6 ls []) := by
    intro nf
    induction nf with
    | zero => intro w d0 hms6; exact absurd hms6 (Nat.not_lt_zero _)
    | succ nf ih6 =>
      intro w d0 hms6 hw6 hl6 H locs ls hW hS hL
      refine lv_iload_n hx hb dX7_digest_6 rfl (hL.at 3 rfl) ?_
      refine lv_bipush (v := 13) hx hb dX7_digest_7 (by decide) ?_
      refine lv_icmp_gt (tgt := 29) hx hb dX7_digest_9 (by decide) (fun c9 => ?_) (fun c9 => ?_)
      · try dsimp only at c9
        have e6 : w = 14 := by have := (nI_ltI (a := 13) (by omega) (by omega)).mp c9; omega
        have f6 : d0 = fG0 M 14 0 58315 := by rw [← hl6, e6, Nat.sub_self]; rfl
        refine lv_iconst (v := 0) hx hb dX7_digest_29 (by decide) ?_
        refine k_ist_n hx hb hL (i := 3) rfl (by decide) dX7_digest_30 (fun ls hL => ?_)
        replace hL := hL.nrm (l' := [some _, some _, none, some _, none]) rfl
        have loop31 : ∀ (nf : Nat) (u1 : Nat) (d1 : Int64), mC M - u1 < nf → u1 ≤ mC M → fG2 M (mC M - u1) u1 d1 = fG2 M (mC M) 0 (fG0 M 14 0 58315) → ∀ (H : Heap) (locs : List Loc) (ls : Array Slot), kW D s0.heap.size ad ct H → va_S (kA s0) s.heap H locs → lvP ls 5 [some (.ref (ad 1)), some (.long d1), none, some (.int (nI u1)), none] → W p l e (krm 6 150 0 0) s m args below meth c H locs 0 0 Q (F0 m 31 ls []) := by
          intro nf
          induction nf with
          | zero => intro u1 d1 hms31; exact absurd hms31 (Nat.not_lt_zero _)
          | succ nf ih31 =>
            intro u1 d1 hms31 hu1 hl31 H locs ls hW hS hL
            refine lv_iload_n hx hb dX7_digest_31 rfl (hL.at 3 rfl) ?_
            refine lv_aload_n hx hb dX7_digest_32 rfl (hL.at 0 rfl) ?_
            refine k_get (ci := 9) (C := RX7) (T := TX7) (N := 15) hx hb hts w_RX7 hown hK hW (by first | with_reducible assumption | with_reducible exact up_s | (rw [up_n (by omega)]; first | with_reducible assumption | with_reducible exact up_s | (rw [up_n (by omega)]; first | with_reducible assumption | with_reducible exact up_s | (rw [up_n (by omega)]; first | with_reducible assumption | with_reducible exact up_s | (rw [up_n (by omega)]; first | with_reducible assumption | with_reducible exact up_s | (rw [up_n (by omega)]; first | with_reducible assumption | with_reducible exact up_s | (rw [up_n (by omega)]; first | with_reducible assumption | with_reducible exact up_s | (rw [up_n (by omega)]; first | with_reducible assumption | with_reducible exact up_s | (rw [up_n (by omega)]; first | with_reducible assumption | with_reducible exact up_s | (rw [up_n (by omega)]; first | with_reducible assumption | with_reducible exact up_s | (rw [up_n (by omega)]; first | with_reducible assumption | with_reducible exact up_s | (rw [up_n (by omega)]; first | with_reducible assumption | with_reducible exact up_s)))))))))))) rfl 6 (by decide) (hq _ q155 rfl) (fun _ h9 => h9) (by rfl) dX7_digest_33 ?_
            refine lv_icmp_ge (tgt := 75) hx hb dX7_digest_36 (by decide) (fun c36 => ?_) (fun c36 => ?_)
            · try dsimp only at c36
              have e31 : u1 = mC M := by have := (nI_leI (by omega) (by omega)).mp c36; omega
              have f31 : d1 = fG2 M (mC M) 0 (fG0 M 14 0 58315) := by rw [← hl31, e31, Nat.sub_self]; rfl
              refine lv_iconst (v := 0) hx hb dX7_digest_75 (by decide) ?_
              refine k_ist_n hx hb hL (i := 3) rfl (by decide) dX7_digest_76 (fun ls hL => ?_)
              replace hL := hL.nrm (l' := [some _, some _, none, some _, none]) rfl
              have loop77 : ∀ (nf : Nat) (i : Nat) (d3 : Int64) (ct1 : Nat → Option va_E) (tb1 : tTb) (fl1 fw1 fh1 fr1 : Nat → UInt64), mO M - i < nf → i ≤ mO M → fG6 M (mO M - i) i d3 = fG6 M (mO M) 0 (fG2 M (mC M) 0 (fG0 M 14 0 58315)) → kOut ct ct1 → RepT cy ad ct1 tb1 fl1 fw1 fh1 fr1 → ∀ (H : Heap) (locs : List Loc) (ls : Array Slot), kW D s0.heap.size ad ct1 H → va_S (kA s0) s.heap H locs → lvP ls 5 [some (.ref (ad 1)), some (.long d3), none, some (.int (nI i)), none] → W p l e (krm 6 150 0 0) s m args below meth c H locs 0 0 Q (F0 m 77 ls []) := by
                intro nf
                induction nf with
                | zero => intro i d3 ct1 tb1 fl1 fw1 fh1 fr1 hms77; exact absurd hms77 (Nat.not_lt_zero _)
                | succ nf ih77 =>
                  intro i d3 ct1 tb1 fl1 fw1 fh1 fr1 hms77 hi77 hl77 hko hT1 H locs ls hW hS hL
                  have hm1 := hm.out ho hko
                  have hs2 := hm1.1
                  refine lv_iload_n hx hb dX7_digest_77 rfl (hL.at 3 rfl) ?_
                  refine lv_aload_n hx hb dX7_digest_78 rfl (hL.at 0 rfl) ?_
                  refine k_get (ci := 9) (C := RX7) (T := TX7) (N := 15) hx hb hts w_RX7 hown hK hW (by first | with_reducible assumption | with_reducible exact up_s | (rw [up_n (by omega)]; first | with_reducible assumption | with_reducible exact up_s | (rw [up_n (by omega)]; first | with_reducible assumption | with_reducible exact up_s | (rw [up_n (by omega)]; first | with_reducible assumption | with_reducible exact up_s | (rw [up_n (by omega)]; first | with_reducible assumption | with_reducible exact up_s | (rw [up_n (by omega)]; first | with_reducible assumption | with_reducible exact up_s | (rw [up_n (by omega)]; first | with_reducible assumption | with_reducible exact up_s | (rw [up_n (by omega)]; first | with_reducible assumption | with_reducible exact up_s | (rw [up_n (by omega)]; first | with_reducible assumption | with_reducible exact up_s | (rw [up_n (by omega)]; first | with_reducible assumption | with_reducible exact up_s | (rw [up_n (by omega)]; first | with_reducible assumption | with_reducible exact up_s | (rw [up_n (by omega)]; first | with_reducible assumption | with_reducible exact up_s)))))))))))) rfl 10 (by decide) (hq _ q159 rfl) (fun _ h9 => h9) (by rfl) dX7_digest_79 ?_
                  refine lv_icmp_ge (tgt := 218) hx hb dX7_digest_82 (by decide) (fun c82 => ?_) (fun c82 => ?_)
                  · try dsimp only at c82
                    have e77 : i = mO M := by have := (nI_leI (by omega) (by omega)).mp c82; omega
                    have f77 : d3 = fG6 M (mO M) 0 (fG2 M (mC M) 0 (fG0 M 14 0 58315)) := by rw [← hl77, e77, Nat.sub_self]; rfl
                    refine lv_iconst (v := 0) hx hb dX7_digest_218 (by decide) ?_
                    refine k_ist_n hx hb hL (i := 3) rfl (by decide) dX7_digest_219 (fun ls hL => ?_)
                    replace hL := hL.nrm (l' := [some _, some _, none, some _, none]) rfl
                    have loop220 : ∀ (nf : Nat) (u2 : Nat) (d6 : Int64), mH M - u2 < nf → u2 ≤ mH M → fG7 M (mH M - u2) u2 d6 = fG7 M (mH M) 0 (fG6 M (mO M) 0 (fG2 M (mC M) 0 (fG0 M 14 0 58315))) → ∀ (H : Heap) (locs : List Loc) (ls : Array Slot), kW D s0.heap.size ad ct1 H → va_S (kA s0) s.heap H locs → lvP ls 5 [some (.ref (ad 1)), some (.long d6), none, some (.int (nI u2)), none] → W p l e (krm 6 150 0 0) s m args below meth c H locs 0 0 Q (F0 m 220 ls []) := by
                      intro nf
                      induction nf with
                      | zero => intro u2 d6 hms220; exact absurd hms220 (Nat.not_lt_zero _)
                      | succ nf ih220 =>
                        intro u2 d6 hms220 hu2 hl220 H locs ls hW hS hL
                        refine lv_iload_n hx hb dX7_digest_220 rfl (hL.at 3 rfl) ?_
                        refine lv_aload_n hx hb dX7_digest_221 rfl (hL.at 0 rfl) ?_
                        refine k_get (ci := 9) (C := RX7) (T := TX7) (N := 15) hx hb hts w_RX7 hown hK hW (by first | with_reducible assumption | with_reducible exact up_s | (rw [up_n (by omega)]; first | with_reducible assumption | with_reducible exact up_s | (rw [up_n (by omega)]; first | with_reducible assumption | with_reducible exact up_s | (rw [up_n (by omega)]; first | with_reducible assumption | with_reducible exact up_s | (rw [up_n (by omega)]; first | with_reducible assumption | with_reducible exact up_s | (rw [up_n (by omega)]; first | with_reducible assumption | with_reducible exact up_s | (rw [up_n (by omega)]; first | with_reducible assumption | with_reducible exact up_s | (rw [up_n (by omega)]; first | with_reducible assumption | with_reducible exact up_s | (rw [up_n (by omega)]; first | with_reducible assumption | with_reducible exact up_s | (rw [up_n (by omega)]; first | with_reducible assumption | with_reducible exact up_s | (rw [up_n (by omega)]; first | with_reducible assumption | with_reducible exact up_s | (rw [up_n (by omega)]; first | with_reducible assumption | with_reducible exact up_s)))))))))))) rfl 9 (by decide) (hq _ q158 rfl) (fun _ h9 => h9) (by rfl) dX7_digest_222 ?_
                        refine lv_icmp_ge (tgt := 247) hx hb dX7_digest_225 (by decide) (fun c225 => ?_) (fun c225 => ?_)
                        · try dsimp only at c225
                          have e220 : u2 = mH M := by have := (nI_leI (by omega) (by omega)).mp c225; omega
                          have f220 : d6 = fG7 M (mH M) 0 (fG6 M (mO M) 0 (fG2 M (mC M) 0 (fG0 M 14 0 58315))) := by rw [← hl220, e220, Nat.sub_self]; rfl
                          refine lv_lload_n hx hb dX7_digest_247 rfl (hL.at 1 rfl) ?_
                          refine lv_aload_n hx hb dX7_digest_248 rfl (hL.at 0 rfl) ?_
                          refine k_get (ci := 9) (C := RX7) (T := TX7) (N := 15) hx hb hts w_RX7 hown hK hW (by first | with_reducible assumption | with_reducible exact up_s | (rw [up_n (by omega)]; first | with_reducible assumption | with_reducible exact up_s | (rw [up_n (by omega)]; first | with_reducible assumption | with_reducible exact up_s | (rw [up_n (by omega)]; first | with_reducible assumption | with_reducible exact up_s | (rw [up_n (by omega)]; first | with_reducible assumption | with_reducible exact up_s | (rw [up_n (by omega)]; first | with_reducible assumption | with_reducible exact up_s | (rw [up_n (by omega)]; first | with_reducible assumption | with_reducible exact up_s | (rw [up_n (by omega)]; first | with_reducible assumption | with_reducible exact up_s | (rw [up_n (by omega)]; first | with_reducible assumption | with_reducible exact up_s | (rw [up_n (by omega)]; first | with_reducible assumption | with_reducible exact up_s | (rw [up_n (by omega)]; first | with_reducible assumption | with_reducible exact up_s | (rw [up_n (by omega)]; first | with_reducible assumption | with_reducible exact up_s)))))))))))) rfl 11 (by decide) (hq _ q160 rfl) (fun _ h9 => h9) (by rfl) dX7_digest_249 ?_
                          refine k_callS hx hb hml hown hts hI hS hW hL.1 (c_in64ths G _ (in64_no (vf_of hN.2.1.nn))) (m4 (gT_in q317 rfl) (gT_in q318 rfl) (gT_in q55 rfl) (gT_in q319 rfl)) (show kpar yX7_in64ths 1 from ⟨by decide, by decide, by decide +kernel⟩) ⟨by decide, by decide⟩ (by show _ ≤ (0 : Nat); omega) (by show _ ≤ (0 : Nat); omega) rfl (by first | decide | exact Nat.le_of_ble_eq_true rfl) dX7_digest_252 (fun v ad252 ct252 H locs hp hW hS => ?_)
                          obtain ⟨rfl, h1, h2⟩ := hp
                          rw [h1, h2] at hW
                          refine k_callS hx hb hml hown hts hI hS hW hL.1 (c_mixed G _ _) (m4 (gT_in q288 rfl) (gT_in q289 rfl) (gT_in q55 rfl) (gT_in q290 rfl)) (show kpar yX7_mixed 2 from ⟨by decide, by decide, by decide +kernel⟩) ⟨by decide, by decide⟩ (by show _ ≤ (0 : Nat); omega) (by show _ ≤ (0 : Nat); omega) rfl (by first | decide | exact Nat.le_of_ble_eq_true rfl) dX7_digest_255 (fun v ad255 ct255 H locs hp hW hS => ?_)
                          obtain ⟨rfl, h1, h2⟩ := hp
                          rw [h1, h2] at hW
                          rw [hQ]
                          exact k_lret hx hb hr hlocks hW hS (by omega) (by omega) dX7_digest_258 (⟨by rw [f220]; rfl, rfl, hko, _, _, _, _, _, hT1⟩)
                        · try dsimp only at c225
                          have hlt220 : u2 < mH M := by
                            rcases Nat.lt_or_ge u2 (mH M) with q9 | q9
                            · exact q9
                            · exact absurd (nI_le q9 (by omega)) c225
                          refine lv_lload_n hx hb dX7_digest_228 rfl (hL.at 1 rfl) ?_
                          refine lv_aload_n hx hb dX7_digest_229 rfl (hL.at 0 rfl) ?_
                          refine lv_iload_n hx hb dX7_digest_230 rfl (hL.at 3 rfl) ?_
                          refine k_callV (q := (RX7, TX7, 15)) hx hb hml hown hts hK hI hS hW hL.1 (by first | with_reducible assumption | with_reducible exact up_s | (rw [up_n (by omega)]; first | with_reducible assumption | with_reducible exact up_s | (rw [up_n (by omega)]; first | with_reducible assumption | with_reducible exact up_s | (rw [up_n (by omega)]; first | with_reducible assumption | with_reducible exact up_s | (rw [up_n (by omega)]; first | with_reducible assumption | with_reducible exact up_s | (rw [up_n (by omega)]; first | with_reducible assumption | with_reducible exact up_s | (rw [up_n (by omega)]; first | with_reducible assumption | with_reducible exact up_s | (rw [up_n (by omega)]; first | with_reducible assumption | with_reducible exact up_s | (rw [up_n (by omega)]; first | with_reducible assumption | with_reducible exact up_s | (rw [up_n (by omega)]; first | with_reducible assumption | with_reducible exact up_s | (rw [up_n (by omega)]; first | with_reducible assumption | with_reducible exact up_s | (rw [up_n (by omega)]; first | with_reducible assumption | with_reducible exact up_s)))))))))))) rfl (c_qfreeM G hm1 ho hlt220) (m5 (gT_in q430 rfl) (gT_in q431 rfl) (gT_in q432 rfl) (gT_in q55 rfl) (gT_in q433 rfl)) rfl (show kpar yX7_free 1 from ⟨by decide, by decide, by decide +kernel⟩) ⟨by decide, by decide⟩ (by show _ ≤ (0 : Nat); omega) (by show _ ≤ (0 : Nat); omega) rfl (by first | decide | exact Nat.le_of_ble_eq_true rfl) dX7_digest_231 (fun v ad231 ct231 H locs hp hW hS => ?_)
                          obtain ⟨rfl, h1, h2⟩ := hp
                          rw [h1, h2] at hW
                          refine k_callS hx hb hml hown hts hI hS hW hL.1 (c_in64ths G _ (in64_no (vf_of (hN.2.2.1 u2 hlt220).nn))) (m4 (gT_in q317 rfl) (gT_in q318 rfl) (gT_in q55 rfl) (gT_in q319 rfl)) (show kpar yX7_in64ths 1 from ⟨by decide, by decide, by decide +kernel⟩) ⟨by decide, by decide⟩ (by show _ ≤ (0 : Nat); omega) (by show _ ≤ (0 : Nat); omega) rfl (by first | decide | exact Nat.le_of_ble_eq_true rfl) dX7_digest_234 (fun v ad234 ct234 H locs hp hW hS => ?_)
                          obtain ⟨rfl, h1, h2⟩ := hp
                          rw [h1, h2] at hW
                          refine k_callS hx hb hml hown hts hI hS hW hL.1 (c_mixed G _ _) (m4 (gT_in q288 rfl) (gT_in q289 rfl) (gT_in q55 rfl) (gT_in q290 rfl)) (show kpar yX7_mixed 2 from ⟨by decide, by decide, by decide +kernel⟩) ⟨by decide, by decide⟩ (by show _ ≤ (0 : Nat); omega) (by show _ ≤ (0 : Nat); omega) rfl (by first | decide | exact Nat.le_of_ble_eq_true rfl) dX7_digest_237 (fun v ad237 ct237 H locs hp hW hS => ?_)
                          obtain ⟨rfl, h1, h2⟩ := hp
                          rw [h1, h2] at hW
                          refine k_lst_n hx hb hL (i := 1) rfl (by decide) dX7_digest_240 (fun ls hL => ?_)
                          replace hL := hL.nrm (l' := [some _, some _, none, some _, none]) rfl
                          refine k_iinc hx hb hL (i := 3) rfl (by decide) dX7_digest_241 (fun ls hL => ?_)
                          replace hL := hL.nrm (l' := [some _, some _, none, some _, none]) rfl
                          refine lv_goto (tgt := 220) hx hb dX7_digest_244 (by decide) ?_
                          rw [show nI u2 + Int32.ofInt 1 = nI (u2 + 1) from nI_1 u2] at hL
                          exact ih220 (u2 + 1) _ (by omega) (by omega) (by rw [← hl220, show mH M - u2 = (mH M - (u2 + 1)) + 1 by omega]; rfl) _ _ _ hW hS (hL.le (by repeat (first | exact kle_nil | refine kle_same ?_ | refine kle_drop ?_)))
                    exact loop220 (mH M + 1) 0 d3 (by omega) (Nat.zero_le _) (by rw [f77]; rfl) _ _ _ hW hS (hL.le (by repeat (first | exact kle_nil | refine kle_same ?_ | refine kle_drop ?_)))
                  · try dsimp only at c82
                    have hlt77 : i < mO M := by
                      rcases Nat.lt_or_ge i (mO M) with q9 | q9
                      · exact q9
                      · exact absurd (nI_le q9 (by omega)) c82
                    refine lv_iconst (v := 0) hx hb dX7_digest_85 (by decide) ?_
                    refine k_ist hx hb hL (i := 4) (by decide) dX7_digest_86 (fun ls hL => ?_)
                    replace hL := hL.nrm (l' := [some _, some _, none, some _, some _]) rfl
                    have loop88 : ∀ (nf : Nat) (k2 : Nat) (d4 : Int64), 8 - k2 < nf → k2 ≤ 8 → fG3 M i (8 - k2) k2 d4 = fG3 M i 8 0 d3 → ∀ (H : Heap) (locs : List Loc) (ls : Array Slot), kW D s0.heap.size ad ct1 H → va_S (kA s0) s.heap H locs → lvP ls 5 [some (.ref (ad 1)), some (.long d4), none, some (.int (nI i)), some (.int (nI k2))] → W p l e (krm 6 150 0 0) s m args below meth c H locs 0 0 Q (F0 m 88 ls []) := by
                      intro nf
                      induction nf with
                      | zero => intro k2 d4 hms88; exact absurd hms88 (Nat.not_lt_zero _)
                      | succ nf ih88 =>
                        intro k2 d4 hms88 hk2 hl88 H locs ls hW hS hL
                        refine lv_iload hx hb dX7_digest_88 (hL.at 4 rfl) ?_
                        refine lv_bipush (v := 7) hx hb dX7_digest_90 (by decide) ?_
                        refine lv_icmp_gt (tgt := 114) hx hb dX7_digest_92 (by decide) (fun c92 => ?_) (fun c92 => ?_)
                        · try dsimp only at c92
                          have e88 : k2 = 8 := by have := (nI_ltI (a := 7) (by omega) (by omega)).mp c92; omega
                          have f88 : d4 = fG3 M i 8 0 d3 := by rw [← hl88, e88, Nat.sub_self]; rfl
                          refine lv_lload_n hx hb dX7_digest_114 rfl (hL.at 1 rfl) ?_
                          refine lv_aload_n hx hb dX7_digest_115 rfl (hL.at 0 rfl) ?_
                          refine lv_iload_n hx hb dX7_digest_116 rfl (hL.at 3 rfl) ?_
                          refine lv_iconst (v := 1) hx hb dX7_digest_117 (by decide) ?_
                          refine k_callV (q := (RX7, TX7, 15)) hx hb hml hown hts hK hI hS hW hL.1 (by first | with_reducible assumption | with_reducible exact up_s | (rw [up_n (by omega)]; first | with_reducible assumption | with_reducible exact up_s | (rw [up_n (by omega)]; first | with_reducible assumption | with_reducible exact up_s | (rw [up_n (by omega)]; first | with_reducible assumption | with_reducible exact up_s | (rw [up_n (by omega)]; first | with_reducible assumption | with_reducible exact up_s | (rw [up_n (by omega)]; first | with_reducible assumption | with_reducible exact up_s | (rw [up_n (by omega)]; first | with_reducible assumption | with_reducible exact up_s | (rw [up_n (by omega)]; first | with_reducible assumption | with_reducible exact up_s | (rw [up_n (by omega)]; first | with_reducible assumption | with_reducible exact up_s | (rw [up_n (by omega)]; first | with_reducible assumption | with_reducible exact up_s | (rw [up_n (by omega)]; first | with_reducible assumption | with_reducible exact up_s | (rw [up_n (by omega)]; first | with_reducible assumption | with_reducible exact up_s)))))))))))) rfl (c_qtightM G hm1 ho hlt77 hN true) (m5 (gT_in q331 rfl) (gT_in q332 rfl) (gT_in q333 rfl) (gT_in q55 rfl) (gT_in q334 rfl)) rfl (show kpar yX7_tight 2 from ⟨by decide, by decide, by decide +kernel⟩) ⟨by decide, by decide⟩ (by show _ ≤ (0 : Nat); omega) (by show _ ≤ (0 : Nat); omega) rfl (by first | decide | exact Nat.le_of_ble_eq_true rfl) dX7_digest_118 (fun v ad118 ct118 H locs hp hW hS => ?_)
                          obtain ⟨rfl, h1, h2⟩ := hp
                          rw [h1, h2] at hW
                          refine k_callS hx hb hml hown hts hI hS hW hL.1 (c_in64ths G _ (in64_no (fTgt_no ho hN hlt77 true))) (m4 (gT_in q317 rfl) (gT_in q318 rfl) (gT_in q55 rfl) (gT_in q319 rfl)) (show kpar yX7_in64ths 1 from ⟨by decide, by decide, by decide +kernel⟩) ⟨by decide, by decide⟩ (by show _ ≤ (0 : Nat); omega) (by show _ ≤ (0 : Nat); omega) rfl (by first | decide | exact Nat.le_of_ble_eq_true rfl) dX7_digest_121 (fun v ad121 ct121 H locs hp hW hS => ?_)
                          obtain ⟨rfl, h1, h2⟩ := hp
                          rw [h1, h2] at hW
                          refine k_callS hx hb hml hown hts hI hS hW hL.1 (c_mixed G _ _) (m4 (gT_in q288 rfl) (gT_in q289 rfl) (gT_in q55 rfl) (gT_in q290 rfl)) (show kpar yX7_mixed 2 from ⟨by decide, by decide, by decide +kernel⟩) ⟨by decide, by decide⟩ (by show _ ≤ (0 : Nat); omega) (by show _ ≤ (0 : Nat); omega) rfl (by first | decide | exact Nat.le_of_ble_eq_true rfl) dX7_digest_124 (fun v ad124 ct124 H locs hp hW hS => ?_)
                          obtain ⟨rfl, h1, h2⟩ := hp
                          rw [h1, h2] at hW
                          refine k_lst_n hx hb hL (i := 1) rfl (by decide) dX7_digest_127 (fun ls hL => ?_)
                          replace hL := hL.nrm (l' := [some _, some _, none, some _, some _]) rfl
                          refine lv_lload_n hx hb dX7_digest_128 rfl (hL.at 1 rfl) ?_
                          refine lv_aload_n hx hb dX7_digest_129 rfl (hL.at 0 rfl) ?_
                          refine lv_iload_n hx hb dX7_digest_130 rfl (hL.at 3 rfl) ?_
                          refine lv_iconst (v := 0) hx hb dX7_digest_131 (by decide) ?_
                          refine k_callV (q := (RX7, TX7, 15)) hx hb hml hown hts hK hI hS hW hL.1 (by first | with_reducible assumption | with_reducible exact up_s | (rw [up_n (by omega)]; first | with_reducible assumption | with_reducible exact up_s | (rw [up_n (by omega)]; first | with_reducible assumption | with_reducible exact up_s | (rw [up_n (by omega)]; first | with_reducible assumption | with_reducible exact up_s | (rw [up_n (by omega)]; first | with_reducible assumption | with_reducible exact up_s | (rw [up_n (by omega)]; first | with_reducible assumption | with_reducible exact up_s | (rw [up_n (by omega)]; first | with_reducible assumption | with_reducible exact up_s | (rw [up_n (by omega)]; first | with_reducible assumption | with_reducible exact up_s | (rw [up_n (by omega)]; first | with_reducible assumption | with_reducible exact up_s | (rw [up_n (by omega)]; first | with_reducible assumption | with_reducible exact up_s | (rw [up_n (by omega)]; first | with_reducible assumption | with_reducible exact up_s | (rw [up_n (by omega)]; first | with_reducible assumption | with_reducible exact up_s)))))))))))) rfl (c_qtightM G hm1 ho hlt77 hN false) (m5 (gT_in q331 rfl) (gT_in q332 rfl) (gT_in q333 rfl) (gT_in q55 rfl) (gT_in q334 rfl)) rfl (show kpar yX7_tight 2 from ⟨by decide, by decide, by decide +kernel⟩) ⟨by decide, by decide⟩ (by show _ ≤ (0 : Nat); omega) (by show _ ≤ (0 : Nat); omega) rfl (by first | decide | exact Nat.le_of_ble_eq_true rfl) dX7_digest_132 (fun v ad132 ct132 H locs hp hW hS => ?_)
                          obtain ⟨rfl, h1, h2⟩ := hp
                          rw [h1, h2] at hW
                          refine k_callS hx hb hml hown hts hI hS hW hL.1 (c_in64ths G _ (in64_no (fTgt_no ho hN hlt77 false))) (m4 (gT_in q317 rfl) (gT_in q318 rfl) (gT_in q55 rfl) (gT_in q319 rfl)) (show kpar yX7_in64ths 1 from ⟨by decide, by decide, by decide +kernel⟩) ⟨by decide, by decide⟩ (by show _ ≤ (0 : Nat); omega) (by show _ ≤ (0 : Nat); omega) rfl (by first | decide | exact Nat.le_of_ble_eq_true rfl) dX7_digest_135 (fun v ad135 ct135 H locs hp hW hS => ?_)
                          obtain ⟨rfl, h1, h2⟩ := hp
                          rw [h1, h2] at hW
                          refine k_callS hx hb hml hown hts hI hS hW hL.1 (c_mixed G _ _) (m4 (gT_in q288 rfl) (gT_in q289 rfl) (gT_in q55 rfl) (gT_in q290 rfl)) (show kpar yX7_mixed 2 from ⟨by decide, by decide, by decide +kernel⟩) ⟨by decide, by decide⟩ (by show _ ≤ (0 : Nat); omega) (by show _ ≤ (0 : Nat); omega) rfl (by first | decide | exact Nat.le_of_ble_eq_true rfl) dX7_digest_138 (fun v ad138 ct138 H locs hp hW hS => ?_)
                          obtain ⟨rfl, h1, h2⟩ := hp
                          rw [h1, h2] at hW
                          refine k_lst_n hx hb hL (i := 1) rfl (by decide) dX7_digest_141 (fun ls hL => ?_)
                          replace hL := hL.nrm (l' := [some _, some _, none, some _, some _]) rfl
                          refine lv_lload_n hx hb dX7_digest_142 rfl (hL.at 1 rfl) ?_
                          refine lv_aload_n hx hb dX7_digest_143 rfl (hL.at 0 rfl) ?_
                          refine lv_iload_n hx hb dX7_digest_144 rfl (hL.at 3 rfl) ?_
                          refine k_callV (q := (RX7, TX7, 15)) hx hb hml hown hts hK hI hS hW hL.1 (by first | with_reducible assumption | with_reducible exact up_s | (rw [up_n (by omega)]; first | with_reducible assumption | with_reducible exact up_s | (rw [up_n (by omega)]; first | with_reducible assumption | with_reducible exact up_s | (rw [up_n (by omega)]; first | with_reducible assumption | with_reducible exact up_s | (rw [up_n (by omega)]; first | with_reducible assumption | with_reducible exact up_s | (rw [up_n (by omega)]; first | with_reducible assumption | with_reducible exact up_s | (rw [up_n (by omega)]; first | with_reducible assumption | with_reducible exact up_s | (rw [up_n (by omega)]; first | with_reducible assumption | with_reducible exact up_s | (rw [up_n (by omega)]; first | with_reducible assumption | with_reducible exact up_s | (rw [up_n (by omega)]; first | with_reducible assumption | with_reducible exact up_s | (rw [up_n (by omega)]; first | with_reducible assumption | with_reducible exact up_s | (rw [up_n (by omega)]; first | with_reducible assumption | with_reducible exact up_s)))))))))))) rfl (c_qreadyM G hm1 ho hlt77) (m5 (gT_in q354 rfl) (gT_in q355 rfl) (gT_in q356 rfl) (gT_in q55 rfl) (gT_in q357 rfl)) rfl (show kpar yX7_ready 1 from ⟨by decide, by decide, by decide +kernel⟩) ⟨by decide, by decide⟩ (by show _ ≤ (0 : Nat); omega) (by show _ ≤ (0 : Nat); omega) rfl (by first | decide | exact Nat.le_of_ble_eq_true rfl) dX7_digest_145 (fun v ad145 ct145 H locs hp hW hS => ?_)
                          obtain ⟨rfl, h1, h2⟩ := hp
                          rw [h1, h2] at hW
                          refine k_callS hx hb hml hown hts hI hS hW hL.1 (c_in64ths G _ (in64_no (fRdy_no hN hlt77))) (m4 (gT_in q317 rfl) (gT_in q318 rfl) (gT_in q55 rfl) (gT_in q319 rfl)) (show kpar yX7_in64ths 1 from ⟨by decide, by decide, by decide +kernel⟩) ⟨by decide, by decide⟩ (by show _ ≤ (0 : Nat); omega) (by show _ ≤ (0 : Nat); omega) rfl (by first | decide | exact Nat.le_of_ble_eq_true rfl) dX7_digest_148 (fun v ad148 ct148 H locs hp hW hS => ?_)
                          obtain ⟨rfl, h1, h2⟩ := hp
                          rw [h1, h2] at hW
                          refine k_callS hx hb hml hown hts hI hS hW hL.1 (c_mixed G _ _) (m4 (gT_in q288 rfl) (gT_in q289 rfl) (gT_in q55 rfl) (gT_in q290 rfl)) (show kpar yX7_mixed 2 from ⟨by decide, by decide, by decide +kernel⟩) ⟨by decide, by decide⟩ (by show _ ≤ (0 : Nat); omega) (by show _ ≤ (0 : Nat); omega) rfl (by first | decide | exact Nat.le_of_ble_eq_true rfl) dX7_digest_151 (fun v ad151 ct151 H locs hp hW hS => ?_)
                          obtain ⟨rfl, h1, h2⟩ := hp
                          rw [h1, h2] at hW
                          refine k_lst_n hx hb hL (i := 1) rfl (by decide) dX7_digest_154 (fun ls hL => ?_)
                          replace hL := hL.nrm (l' := [some _, some _, none, some _, some _]) rfl
                          refine lv_lload_n hx hb dX7_digest_155 rfl (hL.at 1 rfl) ?_
                          refine lv_aload_n hx hb dX7_digest_156 rfl (hL.at 0 rfl) ?_
                          refine lv_iload_n hx hb dX7_digest_157 rfl (hL.at 3 rfl) ?_
                          refine k_callV (q := (RX7, TX7, 15)) hx hb hml hown hts hK hI hS hW hL.1 (by first | with_reducible assumption | with_reducible exact up_s | (rw [up_n (by omega)]; first | with_reducible assumption | with_reducible exact up_s | (rw [up_n (by omega)]; first | with_reducible assumption | with_reducible exact up_s | (rw [up_n (by omega)]; first | with_reducible assumption | with_reducible exact up_s | (rw [up_n (by omega)]; first | with_reducible assumption | with_reducible exact up_s | (rw [up_n (by omega)]; first | with_reducible assumption | with_reducible exact up_s | (rw [up_n (by omega)]; first | with_reducible assumption | with_reducible exact up_s | (rw [up_n (by omega)]; first | with_reducible assumption | with_reducible exact up_s | (rw [up_n (by omega)]; first | with_reducible assumption | with_reducible exact up_s | (rw [up_n (by omega)]; first | with_reducible assumption | with_reducible exact up_s | (rw [up_n (by omega)]; first | with_reducible assumption | with_reducible exact up_s | (rw [up_n (by omega)]; first | with_reducible assumption | with_reducible exact up_s)))))))))))) rfl (c_qbestM G hm1 ho hlt77 hT1 hN) (m5 (gT_in q358 rfl) (gT_in q359 rfl) (gT_in q360 rfl) (gT_in q55 rfl) (gT_in q361 rfl)) rfl (show kpar yX7_best 1 from ⟨by decide, by decide, by decide +kernel⟩) ⟨by decide, by decide⟩ (by show _ ≤ (0 : Nat); omega) (by show _ ≤ (0 : Nat); omega) rfl (by first | decide | exact Nat.le_of_ble_eq_true rfl) dX7_digest_158 (fun v ad158 ct158 H locs hp hW hS => ?_)
                          obtain ⟨rfl, h1, hk158, tb5, fl5, fw5, fh5, fr5, hT158⟩ := hp
                          rw [h1] at hW
                          have hko158 := hko.tr hk158
                          have hm158 := hm.out ho hko158
                          have hs158 := hm158.1
                          refine lv_i2l hx hb dX7_digest_161 rfl ?_
                          refine k_callS hx hb hml hown hts hI hS hW hL.1 (c_mixed G _ _) (m4 (gT_in q288 rfl) (gT_in q289 rfl) (gT_in q55 rfl) (gT_in q290 rfl)) (show kpar yX7_mixed 2 from ⟨by decide, by decide, by decide +kernel⟩) ⟨by decide, by decide⟩ (by show _ ≤ (0 : Nat); omega) (by show _ ≤ (0 : Nat); omega) rfl (by first | decide | exact Nat.le_of_ble_eq_true rfl) dX7_digest_162 (fun v ad162 ct162 H locs hp hW hS => ?_)
                          obtain ⟨rfl, h1, h2⟩ := hp
                          rw [h1, h2] at hW
                          refine k_lst_n hx hb hL (i := 1) rfl (by decide) dX7_digest_165 (fun ls hL => ?_)
                          replace hL := hL.nrm (l' := [some _, some _, none, some _, some _]) rfl
                          refine lv_lload_n hx hb dX7_digest_166 rfl (hL.at 1 rfl) ?_
                          refine lv_aload_n hx hb dX7_digest_167 rfl (hL.at 0 rfl) ?_
                          refine lv_iload_n hx hb dX7_digest_168 rfl (hL.at 3 rfl) ?_
                          refine k_callV (q := (RX7, TX7, 15)) hx hb hml hown hts hK hI hS hW hL.1 (by first | with_reducible assumption | with_reducible exact up_s | (rw [up_n (by omega)]; first | with_reducible assumption | with_reducible exact up_s | (rw [up_n (by omega)]; first | with_reducible assumption | with_reducible exact up_s | (rw [up_n (by omega)]; first | with_reducible assumption | with_reducible exact up_s | (rw [up_n (by omega)]; first | with_reducible assumption | with_reducible exact up_s | (rw [up_n (by omega)]; first | with_reducible assumption | with_reducible exact up_s | (rw [up_n (by omega)]; first | with_reducible assumption | with_reducible exact up_s | (rw [up_n (by omega)]; first | with_reducible assumption | with_reducible exact up_s | (rw [up_n (by omega)]; first | with_reducible assumption | with_reducible exact up_s | (rw [up_n (by omega)]; first | with_reducible assumption | with_reducible exact up_s | (rw [up_n (by omega)]; first | with_reducible assumption | with_reducible exact up_s | (rw [up_n (by omega)]; first | with_reducible assumption | with_reducible exact up_s)))))))))))) rfl (c_qsoonestM G hm158 ho hlt77 hN hnb) (m5 (gT_in q404 rfl) (gT_in q405 rfl) (gT_in q406 rfl) (gT_in q55 rfl) (gT_in q407 rfl)) rfl (show kpar yX7_soonest 1 from ⟨by decide, by decide, by decide +kernel⟩) ⟨by decide, by decide⟩ (by show _ ≤ (0 : Nat); omega) (by show _ ≤ (0 : Nat); omega) rfl (by first | decide | exact Nat.le_of_ble_eq_true rfl) dX7_digest_169 (fun v ad169 ct169 H locs hp hW hS => ?_)
                          obtain ⟨rfl, h1, h2⟩ := hp
                          rw [h1, h2] at hW
                          refine lv_i2l hx hb dX7_digest_172 rfl ?_
                          refine k_callS hx hb hml hown hts hI hS hW hL.1 (c_mixed G _ _) (m4 (gT_in q288 rfl) (gT_in q289 rfl) (gT_in q55 rfl) (gT_in q290 rfl)) (show kpar yX7_mixed 2 from ⟨by decide, by decide, by decide +kernel⟩) ⟨by decide, by decide⟩ (by show _ ≤ (0 : Nat); omega) (by show _ ≤ (0 : Nat); omega) rfl (by first | decide | exact Nat.le_of_ble_eq_true rfl) dX7_digest_173 (fun v ad173 ct173 H locs hp hW hS => ?_)
                          obtain ⟨rfl, h1, h2⟩ := hp
                          rw [h1, h2] at hW
                          refine k_lst_n hx hb hL (i := 1) rfl (by decide) dX7_digest_176 (fun ls hL => ?_)
                          replace hL := hL.nrm (l' := [some _, some _, none, some _, some _]) rfl
                          refine lv_iconst (v := 0) hx hb dX7_digest_177 (by decide) ?_
                          refine k_ist hx hb hL (i := 4) (by decide) dX7_digest_178 (fun ls hL => ?_)
                          replace hL := hL.nrm (l' := [some _, some _, none, some _, some _]) rfl
                          have loop180 : ∀ (nf : Nat) (k3 : Nat) (d5 : Int64) (ct2 : Nat → Option va_E) (tb2 : tTb) (fl2 fw2 fh2 fr2 : Nat → UInt64), mC M - k3 < nf → k3 ≤ mC M → fG4 M i (mC M - k3) k3 d5 = fG4 M i (mC M) 0 (fG5 M i d3) → kOut ct ct2 → RepT cy ad ct2 tb2 fl2 fw2 fh2 fr2 → ∀ (H : Heap) (locs : List Loc) (ls : Array Slot), kW D s0.heap.size ad ct2 H → va_S (kA s0) s.heap H locs → lvP ls 5 [some (.ref (ad 1)), some (.long d5), none, some (.int (nI i)), some (.int (nI k3))] → W p l e (krm 6 150 0 0) s m args below meth c H locs 0 0 Q (F0 m 180 ls []) := by
                            intro nf
                            induction nf with
                            | zero => intro k3 d5 ct2 tb2 fl2 fw2 fh2 fr2 hms180; exact absurd hms180 (Nat.not_lt_zero _)
                            | succ nf ih180 =>
                              intro k3 d5 ct2 tb2 fl2 fw2 fh2 fr2 hms180 hk3 hl180 hko2 hT2 H locs ls hW hS hL
                              have hm2 := hm.out ho hko2
                              have hs3 := hm2.1
                              refine lv_iload hx hb dX7_digest_180 (hL.at 4 rfl) ?_
                              refine lv_aload_n hx hb dX7_digest_182 rfl (hL.at 0 rfl) ?_
                              refine k_get (ci := 9) (C := RX7) (T := TX7) (N := 15) hx hb hts w_RX7 hown hK hW (by first | with_reducible assumption | with_reducible exact up_s | (rw [up_n (by omega)]; first | with_reducible assumption | with_reducible exact up_s | (rw [up_n (by omega)]; first | with_reducible assumption | with_reducible exact up_s | (rw [up_n (by omega)]; first | with_reducible assumption | with_reducible exact up_s | (rw [up_n (by omega)]; first | with_reducible assumption | with_reducible exact up_s | (rw [up_n (by omega)]; first | with_reducible assumption | with_reducible exact up_s | (rw [up_n (by omega)]; first | with_reducible assumption | with_reducible exact up_s | (rw [up_n (by omega)]; first | with_reducible assumption | with_reducible exact up_s | (rw [up_n (by omega)]; first | with_reducible assumption | with_reducible exact up_s | (rw [up_n (by omega)]; first | with_reducible assumption | with_reducible exact up_s | (rw [up_n (by omega)]; first | with_reducible assumption | with_reducible exact up_s | (rw [up_n (by omega)]; first | with_reducible assumption | with_reducible exact up_s)))))))))))) rfl 6 (by decide) (hq _ q155 rfl) (fun _ h9 => h9) (by rfl) dX7_digest_183 ?_
                              refine lv_icmp_ge (tgt := 212) hx hb dX7_digest_186 (by decide) (fun c186 => ?_) (fun c186 => ?_)
                              · try dsimp only at c186
                                have e180 : k3 = mC M := by have := (nI_leI (by omega) (by omega)).mp c186; omega
                                have f180 : d5 = fG4 M i (mC M) 0 (fG5 M i d3) := by rw [← hl180, e180, Nat.sub_self]; rfl
                                refine k_iinc hx hb hL (i := 3) rfl (by decide) dX7_digest_212 (fun ls hL => ?_)
                                replace hL := hL.nrm (l' := [some _, some _, none, some _, some _]) rfl
                                refine lv_goto (tgt := 77) hx hb dX7_digest_215 (by decide) ?_
                                rw [show nI i + Int32.ofInt 1 = nI (i + 1) from nI_1 i] at hL
                                exact ih77 (i + 1) d5 _ _ _ _ _ _ (by omega) (by omega) (by rw [← hl77, show mO M - i = (mO M - (i + 1)) + 1 by omega, f180]; rfl) hko2 hT2 _ _ _ hW hS (hL.le (by repeat (first | exact kle_nil | refine kle_same ?_ | refine kle_drop ?_)))
                              · try dsimp only at c186
                                have hlt180 : k3 < mC M := by
                                  rcases Nat.lt_or_ge k3 (mC M) with q9 | q9
                                  · exact q9
                                  · exact absurd (nI_le q9 (by omega)) c186
                                refine lv_lload_n hx hb dX7_digest_189 rfl (hL.at 1 rfl) ?_
                                refine lv_aload_n hx hb dX7_digest_190 rfl (hL.at 0 rfl) ?_
                                refine lv_iload_n hx hb dX7_digest_191 rfl (hL.at 3 rfl) ?_
                                refine lv_iconst (v := (-1)) hx hb dX7_digest_192 (by decide) ?_
                                refine lv_iload hx hb dX7_digest_193 (hL.at 4 rfl) ?_
                                refine lv_iconst (v := 0) hx hb dX7_digest_195 (by decide) ?_
                                refine k_callV (q := (RX7, TX7, 15)) hx hb hml hown hts hK hI hS hW hL.1 (by first | with_reducible assumption | with_reducible exact up_s | (rw [up_n (by omega)]; first | with_reducible assumption | with_reducible exact up_s | (rw [up_n (by omega)]; first | with_reducible assumption | with_reducible exact up_s | (rw [up_n (by omega)]; first | with_reducible assumption | with_reducible exact up_s | (rw [up_n (by omega)]; first | with_reducible assumption | with_reducible exact up_s | (rw [up_n (by omega)]; first | with_reducible assumption | with_reducible exact up_s | (rw [up_n (by omega)]; first | with_reducible assumption | with_reducible exact up_s | (rw [up_n (by omega)]; first | with_reducible assumption | with_reducible exact up_s | (rw [up_n (by omega)]; first | with_reducible assumption | with_reducible exact up_s | (rw [up_n (by omega)]; first | with_reducible assumption | with_reducible exact up_s | (rw [up_n (by omega)]; first | with_reducible assumption | with_reducible exact up_s | (rw [up_n (by omega)]; first | with_reducible assumption | with_reducible exact up_s)))))))))))) rfl (c_qlayM G hm2 ho hlt77 hlt180 hT2 hN) (m5 (gT_in q413 rfl) (gT_in q414 rfl) (gT_in q415 rfl) (gT_in q55 rfl) (gT_in q416 rfl)) rfl (show kpar yX7_lay 4 from ⟨by decide, by decide, by decide +kernel⟩) ⟨by decide, by decide⟩ (by show _ ≤ (0 : Nat); omega) (by show _ ≤ (0 : Nat); omega) rfl (by first | decide | exact Nat.le_of_ble_eq_true rfl) dX7_digest_196 (fun v ad196 ct196 H locs hp hW hS => ?_)
                                obtain ⟨rfl, h1, hk196, tb6, fl6, fw6, fh6, fr6, hT196⟩ := hp
                                rw [h1] at hW
                                refine k_callS hx hb hml hown hts hI hS hW hL.1 (c_in64ths G _ (in64_no (fLayV_no ho hN hlt77 hlt180))) (m4 (gT_in q317 rfl) (gT_in q318 rfl) (gT_in q55 rfl) (gT_in q319 rfl)) (show kpar yX7_in64ths 1 from ⟨by decide, by decide, by decide +kernel⟩) ⟨by decide, by decide⟩ (by show _ ≤ (0 : Nat); omega) (by show _ ≤ (0 : Nat); omega) rfl (by first | decide | exact Nat.le_of_ble_eq_true rfl) dX7_digest_199 (fun v ad199 ct199 H locs hp hW hS => ?_)
                                obtain ⟨rfl, h1, h2⟩ := hp
                                rw [h1, h2] at hW
                                refine k_callS hx hb hml hown hts hI hS hW hL.1 (c_mixed G _ _) (m4 (gT_in q288 rfl) (gT_in q289 rfl) (gT_in q55 rfl) (gT_in q290 rfl)) (show kpar yX7_mixed 2 from ⟨by decide, by decide, by decide +kernel⟩) ⟨by decide, by decide⟩ (by show _ ≤ (0 : Nat); omega) (by show _ ≤ (0 : Nat); omega) rfl (by first | decide | exact Nat.le_of_ble_eq_true rfl) dX7_digest_202 (fun v ad202 ct202 H locs hp hW hS => ?_)
                                obtain ⟨rfl, h1, h2⟩ := hp
                                rw [h1, h2] at hW
                                refine k_lst_n hx hb hL (i := 1) rfl (by decide) dX7_digest_205 (fun ls hL => ?_)
                                replace hL := hL.nrm (l' := [some _, some _, none, some _, some _]) rfl
                                refine k_iinc hx hb hL (i := 4) rfl (by decide) dX7_digest_206 (fun ls hL => ?_)
                                replace hL := hL.nrm (l' := [some _, some _, none, some _, some _]) rfl
                                refine lv_goto (tgt := 180) hx hb dX7_digest_209 (by decide) ?_
                                rw [show nI k3 + Int32.ofInt 1 = nI (k3 + 1) from nI_1 k3] at hL
                                exact ih180 (k3 + 1) _ _ _ _ _ _ _ (by omega) (by omega) (by rw [← hl180, show mC M - k3 = (mC M - (k3 + 1)) + 1 by omega]; rfl) (hko2.tr hk196) hT196 _ _ _ hW hS (hL.le (by repeat (first | exact kle_nil | refine kle_same ?_ | refine kle_drop ?_)))
                          exact loop180 (mC M + 1) 0 _ _ _ _ _ _ _ (by omega) (Nat.zero_le _) (by rw [f88]; rfl) hko158 hT158 _ _ _ hW hS hL
                        · try dsimp only at c92
                          have hlt88 : k2 < 8 := by
                            rcases Nat.lt_or_ge 7 k2 with q9 | q9
                            · exact absurd (nI_lt (a := 7) q9 (by omega)) c92
                            · omega
                          refine lv_lload_n hx hb dX7_digest_95 rfl (hL.at 1 rfl) ?_
                          refine lv_aload_n hx hb dX7_digest_96 rfl (hL.at 0 rfl) ?_
                          refine lv_iload_n hx hb dX7_digest_97 rfl (hL.at 3 rfl) ?_
                          refine lv_iload hx hb dX7_digest_98 (hL.at 4 rfl) ?_
                          refine k_callV (q := (RX7, TX7, 15)) hx hb hml hown hts hK hI hS hW hL.1 (by first | with_reducible assumption | with_reducible exact up_s | (rw [up_n (by omega)]; first | with_reducible assumption | with_reducible exact up_s | (rw [up_n (by omega)]; first | with_reducible assumption | with_reducible exact up_s | (rw [up_n (by omega)]; first | with_reducible assumption | with_reducible exact up_s | (rw [up_n (by omega)]; first | with_reducible assumption | with_reducible exact up_s | (rw [up_n (by omega)]; first | with_reducible assumption | with_reducible exact up_s | (rw [up_n (by omega)]; first | with_reducible assumption | with_reducible exact up_s | (rw [up_n (by omega)]; first | with_reducible assumption | with_reducible exact up_s | (rw [up_n (by omega)]; first | with_reducible assumption | with_reducible exact up_s | (rw [up_n (by omega)]; first | with_reducible assumption | with_reducible exact up_s | (rw [up_n (by omega)]; first | with_reducible assumption | with_reducible exact up_s | (rw [up_n (by omega)]; first | with_reducible assumption | with_reducible exact up_s)))))))))))) rfl (c_qofOrderM G hm1 ho hlt77 hlt88) (m5 (gT_in q321 rfl) (gT_in q322 rfl) (gT_in q323 rfl) (gT_in q55 rfl) (gT_in q324 rfl)) rfl (show kpar yX7_ofOrder 2 from ⟨by decide, by decide, by decide +kernel⟩) ⟨by decide, by decide⟩ (by show _ ≤ (0 : Nat); omega) (by show _ ≤ (0 : Nat); omega) rfl (by first | decide | exact Nat.le_of_ble_eq_true rfl) dX7_digest_100 (fun v ad100 ct100 H locs hp hW hS => ?_)
                          obtain ⟨rfl, h1, h2⟩ := hp
                          rw [h1, h2] at hW
                          refine lv_i2l hx hb dX7_digest_103 rfl ?_
                          refine k_callS hx hb hml hown hts hI hS hW hL.1 (c_mixed G _ _) (m4 (gT_in q288 rfl) (gT_in q289 rfl) (gT_in q55 rfl) (gT_in q290 rfl)) (show kpar yX7_mixed 2 from ⟨by decide, by decide, by decide +kernel⟩) ⟨by decide, by decide⟩ (by show _ ≤ (0 : Nat); omega) (by show _ ≤ (0 : Nat); omega) rfl (by first | decide | exact Nat.le_of_ble_eq_true rfl) dX7_digest_104 (fun v ad104 ct104 H locs hp hW hS => ?_)
                          obtain ⟨rfl, h1, h2⟩ := hp
                          rw [h1, h2] at hW
                          refine k_lst_n hx hb hL (i := 1) rfl (by decide) dX7_digest_107 (fun ls hL => ?_)
                          replace hL := hL.nrm (l' := [some _, some _, none, some _, some _]) rfl
                          refine k_iinc hx hb hL (i := 4) rfl (by decide) dX7_digest_108 (fun ls hL => ?_)
                          replace hL := hL.nrm (l' := [some _, some _, none, some _, some _]) rfl
                          refine lv_goto (tgt := 88) hx hb dX7_digest_111 (by decide) ?_
                          rw [show nI k2 + Int32.ofInt 1 = nI (k2 + 1) from nI_1 k2] at hL
                          exact ih88 (k2 + 1) _ (by omega) (by omega) (by rw [← hl88, show 8 - k2 = (8 - (k2 + 1)) + 1 by omega]; rfl) _ _ _ hW hS (hL.le (by repeat (first | exact kle_nil | refine kle_same ?_ | refine kle_drop ?_)))
                    exact loop88 9 0 d3 (by omega) (Nat.zero_le _) rfl _ _ _ hW hS hL
              exact loop77 (mO M + 1) 0 d1 ct tb fl fw fh fr (by omega) (Nat.zero_le _) (by rw [f31]; rfl) kOut.rf hT _ _ _ hW hS (hL.le (by repeat (first | exact kle_nil | refine kle_same ?_ | refine kle_drop ?_)))
            · try dsimp only at c36
              have hlt31 : u1 < mC M := by
                rcases Nat.lt_or_ge u1 (mC M) with q9 | q9
                · exact q9
                · exact absurd (nI_le q9 (by omega)) c36
              refine lv_iconst (v := 0) hx hb dX7_digest_39 (by decide) ?_
              refine k_ist hx hb hL (i := 4) (by decide) dX7_digest_40 (fun ls hL => ?_)
              replace hL := hL.nrm (l' := [some _, some _, none, some _, some _]) rfl
              have loop42 : ∀ (nf : Nat) (k1 : Nat) (d2 : Int64), 3 - k1 < nf → k1 ≤ 3 → fG1 (mcl M u1) (3 - k1) k1 d2 = fG1 (mcl M u1) 3 0 d1 → ∀ (H : Heap) (locs : List Loc) (ls : Array Slot), kW D s0.heap.size ad ct H → va_S (kA s0) s.heap H locs → lvP ls 5 [some (.ref (ad 1)), some (.long d2), none, some (.int (nI u1)), some (.int (nI k1))] → W p l e (krm 6 150 0 0) s m args below meth c H locs 0 0 Q (F0 m 42 ls []) := by
                intro nf
                induction nf with
                | zero => intro k1 d2 hms42; exact absurd hms42 (Nat.not_lt_zero _)
                | succ nf ih42 =>
                  intro k1 d2 hms42 hk1 hl42 H locs ls hW hS hL
                  refine lv_iload hx hb dX7_digest_42 (hL.at 4 rfl) ?_
                  refine lv_iconst (v := 2) hx hb dX7_digest_44 (by decide) ?_
                  refine lv_icmp_gt (tgt := 69) hx hb dX7_digest_45 (by decide) (fun c45 => ?_) (fun c45 => ?_)
                  · try dsimp only at c45
                    have e42 : k1 = 3 := by have := (nI_ltI (a := 2) (by omega) (by omega)).mp c45; omega
                    have f42 : d2 = fG1 (mcl M u1) 3 0 d1 := by rw [← hl42, e42, Nat.sub_self]; rfl
                    refine k_iinc hx hb hL (i := 3) rfl (by decide) dX7_digest_69 (fun ls hL => ?_)
                    replace hL := hL.nrm (l' := [some _, some _, none, some _, some _]) rfl
                    refine lv_goto (tgt := 31) hx hb dX7_digest_72 (by decide) ?_
                    rw [show nI u1 + Int32.ofInt 1 = nI (u1 + 1) from nI_1 u1] at hL
                    exact ih31 (u1 + 1) d2 (by omega) (by omega) (by rw [← hl31, show mC M - u1 = (mC M - (u1 + 1)) + 1 by omega]; rw [f42]; rfl) _ _ _ hW hS (hL.le (by repeat (first | exact kle_nil | refine kle_same ?_ | refine kle_drop ?_)))
                  · try dsimp only at c45
                    have hlt42 : k1 < 3 := by
                      rcases Nat.lt_or_ge 2 k1 with q9 | q9
                      · exact absurd (nI_lt (a := 2) q9 (by omega)) c45
                      · omega
                    refine lv_lload_n hx hb dX7_digest_48 rfl (hL.at 1 rfl) ?_
                    refine lv_aload_n hx hb dX7_digest_49 rfl (hL.at 0 rfl) ?_
                    refine lv_iload_n hx hb dX7_digest_50 rfl (hL.at 3 rfl) ?_
                    refine lv_iload hx hb dX7_digest_51 (hL.at 4 rfl) ?_
                    refine k_callV (q := (RX7, TX7, 15)) hx hb hml hown hts hK hI hS hW hL.1 (by first | with_reducible assumption | with_reducible exact up_s | (rw [up_n (by omega)]; first | with_reducible assumption | with_reducible exact up_s | (rw [up_n (by omega)]; first | with_reducible assumption | with_reducible exact up_s | (rw [up_n (by omega)]; first | with_reducible assumption | with_reducible exact up_s | (rw [up_n (by omega)]; first | with_reducible assumption | with_reducible exact up_s | (rw [up_n (by omega)]; first | with_reducible assumption | with_reducible exact up_s | (rw [up_n (by omega)]; first | with_reducible assumption | with_reducible exact up_s | (rw [up_n (by omega)]; first | with_reducible assumption | with_reducible exact up_s | (rw [up_n (by omega)]; first | with_reducible assumption | with_reducible exact up_s | (rw [up_n (by omega)]; first | with_reducible assumption | with_reducible exact up_s | (rw [up_n (by omega)]; first | with_reducible assumption | with_reducible exact up_s | (rw [up_n (by omega)]; first | with_reducible assumption | with_reducible exact up_s)))))))))))) rfl (c_qofClothM G hm ho hlt31 (wk := k1) (by omega)) (m5 (gT_in q292 rfl) (gT_in q293 rfl) (gT_in q294 rfl) (gT_in q55 rfl) (gT_in q295 rfl)) rfl (show kpar yX7_ofCloth 2 from ⟨by decide, by decide, by decide +kernel⟩) ⟨by decide, by decide⟩ (by show _ ≤ (0 : Nat); omega) (by show _ ≤ (0 : Nat); omega) rfl (by first | decide | exact Nat.le_of_ble_eq_true rfl) dX7_digest_53 (fun v ad53 ct53 H locs hp hW hS => ?_)
                    obtain ⟨rfl, h1, h2⟩ := hp
                    rw [h1, h2] at hW
                    refine k_callS hx hb hml hown hts hI hS hW hL.1 (c_in64ths G _ (in64_no (fOC_no ho hN hlt31 hlt42))) (m4 (gT_in q317 rfl) (gT_in q318 rfl) (gT_in q55 rfl) (gT_in q319 rfl)) (show kpar yX7_in64ths 1 from ⟨by decide, by decide, by decide +kernel⟩) ⟨by decide, by decide⟩ (by show _ ≤ (0 : Nat); omega) (by show _ ≤ (0 : Nat); omega) rfl (by first | decide | exact Nat.le_of_ble_eq_true rfl) dX7_digest_56 (fun v ad56 ct56 H locs hp hW hS => ?_)
                    obtain ⟨rfl, h1, h2⟩ := hp
                    rw [h1, h2] at hW
                    refine k_callS hx hb hml hown hts hI hS hW hL.1 (c_mixed G _ _) (m4 (gT_in q288 rfl) (gT_in q289 rfl) (gT_in q55 rfl) (gT_in q290 rfl)) (show kpar yX7_mixed 2 from ⟨by decide, by decide, by decide +kernel⟩) ⟨by decide, by decide⟩ (by show _ ≤ (0 : Nat); omega) (by show _ ≤ (0 : Nat); omega) rfl (by first | decide | exact Nat.le_of_ble_eq_true rfl) dX7_digest_59 (fun v ad59 ct59 H locs hp hW hS => ?_)
                    obtain ⟨rfl, h1, h2⟩ := hp
                    rw [h1, h2] at hW
                    refine k_lst_n hx hb hL (i := 1) rfl (by decide) dX7_digest_62 (fun ls hL => ?_)
                    replace hL := hL.nrm (l' := [some _, some _, none, some _, some _]) rfl
                    refine k_iinc hx hb hL (i := 4) rfl (by decide) dX7_digest_63 (fun ls hL => ?_)
                    replace hL := hL.nrm (l' := [some _, some _, none, some _, some _]) rfl
                    refine lv_goto (tgt := 42) hx hb dX7_digest_66 (by decide) ?_
                    rw [show nI k1 + Int32.ofInt 1 = nI (k1 + 1) from nI_1 k1] at hL
                    exact ih42 (k1 + 1) _ (by omega) (by omega) (by rw [← hl42, show 3 - k1 = (3 - (k1 + 1)) + 1 by omega]; rfl) _ _ _ hW hS (hL.le (by repeat (first | exact kle_nil | refine kle_same ?_ | refine kle_drop ?_)))
              exact loop42 4 0 d1 (by omega) (Nat.zero_le _) rfl _ _ _ hW hS hL
        exact loop31 (mC M + 1) 0 d0 (by omega) (Nat.zero_le _) (by rw [f6]; rfl) _ _ _ hW hS hL
      · try dsimp only at c9
        have hlt6 : w < 14 := by
          rcases Nat.lt_or_ge 13 w with q9 | q9
          · exact absurd (nI_lt (a := 13) q9 (by omega)) c9
          · omega
        refine lv_lload_n hx hb dX7_digest_12 rfl (hL.at 1 rfl) ?_
        refine lv_aload_n hx hb dX7_digest_13 rfl (hL.at 0 rfl) ?_
        refine lv_iload_n hx hb dX7_digest_14 rfl (hL.at 3 rfl) ?_
        refine k_callV (q := (RX7, TX7, 15)) hx hb hml hown hts hK hI hS hW hL.1 (by first | with_reducible assumption | with_reducible exact up_s | (rw [up_n (by omega)]; first | with_reducible assumption | with_reducible exact up_s | (rw [up_n (by omega)]; first | with_reducible assumption | with_reducible exact up_s | (rw [up_n (by omega)]; first | with_reducible assumption | with_reducible exact up_s | (rw [up_n (by omega)]; first | with_reducible assumption | with_reducible exact up_s | (rw [up_n (by omega)]; first | with_reducible assumption | with_reducible exact up_s | (rw [up_n (by omega)]; first | with_reducible assumption | with_reducible exact up_s | (rw [up_n (by omega)]; first | with_reducible assumption | with_reducible exact up_s | (rw [up_n (by omega)]; first | with_reducible assumption | with_reducible exact up_s | (rw [up_n (by omega)]; first | with_reducible assumption | with_reducible exact up_s | (rw [up_n (by omega)]; first | with_reducible assumption | with_reducible exact up_s | (rw [up_n (by omega)]; first | with_reducible assumption | with_reducible exact up_s)))))))))))) rfl (c_qmanyM G hm ho hlt6) (m5 (gT_in q212 rfl) (gT_in q213 rfl) (gT_in q214 rfl) (gT_in q55 rfl) (gT_in q215 rfl)) rfl (show kpar yX7_many 1 from ⟨by decide, by decide, by decide +kernel⟩) ⟨by decide, by decide⟩ (by show _ ≤ (0 : Nat); omega) (by show _ ≤ (0 : Nat); omega) rfl (by first | decide | exact Nat.le_of_ble_eq_true rfl) dX7_digest_15 (fun v ad15 ct15 H locs hp hW hS => ?_)
        obtain ⟨rfl, h1, h2⟩ := hp
        rw [h1, h2] at hW
        refine lv_i2l hx hb dX7_digest_18 rfl ?_
        refine k_callS hx hb hml hown hts hI hS hW hL.1 (c_mixed G _ _) (m4 (gT_in q288 rfl) (gT_in q289 rfl) (gT_in q55 rfl) (gT_in q290 rfl)) (show kpar yX7_mixed 2 from ⟨by decide, by decide, by decide +kernel⟩) ⟨by decide, by decide⟩ (by show _ ≤ (0 : Nat); omega) (by show _ ≤ (0 : Nat); omega) rfl (by first | decide | exact Nat.le_of_ble_eq_true rfl) dX7_digest_19 (fun v ad19 ct19 H locs hp hW hS => ?_)
        obtain ⟨rfl, h1, h2⟩ := hp
        rw [h1, h2] at hW
        refine k_lst_n hx hb hL (i := 1) rfl (by decide) dX7_digest_22 (fun ls hL => ?_)
        replace hL := hL.nrm (l' := [some _, some _, none, some _, none]) rfl
        refine k_iinc hx hb hL (i := 3) rfl (by decide) dX7_digest_23 (fun ls hL => ?_)
        replace hL := hL.nrm (l' := [some _, some _, none, some _, none]) rfl
        refine lv_goto (tgt := 6) hx hb dX7_digest_26 (by decide) ?_
        rw [show nI w + Int32.ofInt 1 = nI (w + 1) from nI_1 w] at hL
        exact ih6 (w + 1) _ (by omega) (by omega) (by rw [← hl6, show 14 - w = (14 - (w + 1)) + 1 by omega]; rfl) _ _ _ hW hS (hL.le (by repeat (first | exact kle_nil | refine kle_same ?_ | refine kle_drop ?_)))
  exact loop6 15 0 58315 (by omega) (Nat.zero_le _) rfl _ _ _ hW hS hL
