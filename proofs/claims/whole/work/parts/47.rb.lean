/-! lays, as the reference makes them -/
def fSumH (f : Nat → UInt64) : Nat → UInt64
  | 0 => cD0
  | n + 1 => FP.dadd (fSumH f n) (f n)
def okH (s : tLs) : Prop := (∀ r, r < s.1 → dP 572 16880 (s.2.2.2.1 r)) ∧ s.2.2.1 = fSumH s.2.2.2.1 s.1
theorem fSumH_ag {f f' : Nat → UInt64} : ∀ n, (∀ j, j < n → f j = f' j) → fSumH f n = fSumH f' n
  | 0, _ => rfl
  | n + 1, h => by
    show FP.dadd (fSumH f n) (f n) = FP.dadd (fSumH f' n) (f' n)
    rw [fSumH_ag n (fun j hj => h j (by omega)), h n (by omega)]
theorem fSumH_ok {f : Nat → UInt64} : ∀ n, n ≤ 40 → (∀ r, r < n → dP 572 16880 (f r)) → dP (572 * n) (16880 * n) (fSumH f n)
  | 0, _, _ => dP_c0
  | n + 1, hn, h => (dP_add (fSumH_ok n (by omega) (fun r hr => h r (by omega))) (h n (by omega)) (by omega)).wk (by omega) (by omega)
theorem okH_into {s s' : tLs} {room height : UInt64} (h : okH s) (e : fInto s room height = some s') : okH s' := by
  unfold fInto at e
  by_cases q : fFirst (fRow s.2.2.2.1 s.2.2.2.2 room height) s.1 0 < s.1
  · rw [if_pos q] at e; cases e; exact h
  · rw [if_neg q] at e; cases e
theorem okH_new {wd : UInt64} {sp : Nat} {s s' : tLs} {room height : UInt64} (hsp : sp ≤ 20) (ht : dW height) (h : okH s) (e : fNew wd sp s room height = some s') : okH s' := by
  unfold fNew at e
  by_cases q : FP.dcmp room wd = some .gt
  · rw [if_pos q] at e; cases e
  · rw [if_neg q] at e
    cases e
    obtain ⟨h1, h2⟩ := h
    refine ⟨fun r hr => ?_, ?_⟩
    · have hr' : r < s.1 + 1 := hr
      show dP 572 16880 (vf_upd s.2.2.2.1 s.1 _ r)
      by_cases e : r = s.1
      · subst e; rw [vu_s]; exact (dP_raise hsp ht).1
      · rw [vu_n e]; exact h1 r (by omega)
    · show FP.dadd s.2.2.1 (fRaise sp height) = FP.dadd (fSumH (vf_upd s.2.2.2.1 s.1 (fRaise sp height)) s.1) (vf_upd s.2.2.2.1 s.1 (fRaise sp height) s.1)
      rw [vu_s, fSumH_ag (f' := s.2.2.2.1) s.1 (fun j hj => vu_n (by omega)), ← h2]
theorem okH_put {wd : UInt64} {sp : Nat} {b : Bool} {s s' : tLs} {w t : UInt64} (hsp : sp ≤ 20) (hw : dW w) (ht : dW t) (h : okH s) (e : fPut wd sp b s w t = some s') : okH s' := by
  have newN : ∀ s2, fPutN wd sp b s w t = some s2 → okH s2 := by
    intro s2 e
    cases e1 : fNew wd sp s w t with
    | some s1 => rw [fPutN_1 e1] at e; cases e; exact okH_new hsp ht h e1
    | none =>
      cases b with
      | false => rw [fPutN_4 e1] at e; cases e
      | true =>
        cases e2 : fNew wd sp s t w with
        | none => rw [fPutN_3 e1 e2] at e; cases e
        | some s1 => rw [fPutN_2 e1 e2] at e; cases e; exact (show okH s1 from okH_new hsp hw h e2)
  cases e1 : fInto s w t with
  | some s1 => rw [fPut_1 e1] at e; cases e; exact okH_into h e1
  | none =>
    cases b with
    | false => rw [fPut_4 e1] at e; exact newN s' e
    | true =>
      cases e2 : fInto s t w with
      | none => rw [fPut_3 e1 e2] at e; exact newN s' e
      | some s1 => rw [fPut_2 e1 e2] at e; cases e; exact (show okH s1 from okH_into h e2)
theorem dP_rdiv {sp : Nat} {x : UInt64} (h0 : 0 < sp) (hsp : sp ≤ 20) (h : dW x) : dP (592 / sp) (15580 / sp + 1) (FP.ddiv x (FP.i2d (nI sp))) := by
  obtain ⟨t1, t2, t3, t4, t5⟩ := raise_tab ⟨sp, by omega⟩ h0
  exact dP_div h (dP_i2d (n := sp) (by omega)) (by omega) t1 t2 (by have : 15580 / sp ≤ 15580 := t5; omega)
abbrev fTold (wd : UInt64) (a : tAn) : Nat → UInt64 := vf_upd (vf_upd (vf_upd (vf_upd (fun _ => 0) 0 a.2.2.2) 1 (fWaste a.2.2.2 a.1 wd)) 2 (FP.i2d (nI a.2.1))) 3 (FP.i2d (nI a.2.2.1))
theorem dcmp_no {a b c d : Nat} {x y : UInt64} (hx : dP a b x) (hy : dP c d y) : FP.dcmp x y ≠ none := by rw [dP_cmp hx hy]; exact Option.some_ne_none _
theorem dGe_of {x y : UInt64} (h : ¬ FP.dcmp x y = some .lt) (h2 : FP.dcmp x y ≠ none) : dGe x y := fun z => z.elim h h2
theorem ref_no {n : Nat} {s : tLs} {wd w t : UInt64} (hS : okS wd n s) (hH : okH s) (hw : dW w) (ht : dW t) : ∀ r, r < s.1 → FP.dcmp (s.2.2.2.2 r) w ≠ none ∧ FP.dcmp (s.2.2.2.1 r) t ≠ none := fun r hr => ⟨dcmp_no (hS.2.2 r hr).1 hw, dcmp_no (hH.1 r hr) ht⟩

set_option maxHeartbeats 4000000 in
set_option maxRecDepth 100000 in
/-- TailorBenchModel.first  -/
theorem r_first {l : Launch} {D : va_G} {cy : Nat → ClassId} {sad : Nat → Nat} {em : Nat} {s0 : State} {a0 : Array Value} (G : kG kSTR l D cy sad em s0 a0) {ad : Nat → Nat} {ct : Nat → Option va_E} {kh kr N rows : Nat} {fh fr : Nat → UInt64} (hh : ct kh = some (.inl (cy 0, N, aD fh))) (hrr : ct kr = some (.inl (cy 0, N, aD fr))) (hrN : rows ≤ N) (hN : N ≤ 40) (room height : UInt64) (hnn : ∀ r, r < rows → FP.dcmp (fr r) room ≠ none ∧ FP.dcmp (fh r) height ≠ none) :
    KM l yX11_first [.code yX11_first prog_10_method_23_code 8 (some .int)] 0 0 0 0 [.ref (ad kh), .ref (ad kr), .int (nI rows), .double room, .double height] D s0 ad ct (fun v ad' ct' => v = some (.int (nI (fFirst (fRow fh fr room height) rows 0))) ∧ ad' = ad ∧ ct' = ct) := by
  refine KM.of G (by decide) (Nat.le_of_ble_eq_true rfl) (Nat.le_of_ble_eq_true rfl) ?_
  intro p e s m args below meth c ls Q hQ X hin hL hW hS
  obtain ⟨hx, hb, hr, hml, hown, hlocks, hts, hq, hK, hI⟩ := X
  replace hL := hL.nrm (l' := [some _, some _, some _, some _, none, some _, none, none]) rfl
  refine lv_iconst (v := 0) hx hb dX11_first_0 (by decide) ?_
  refine k_ist hx hb hL (i := 7) (by decide) dX11_first_1 (fun ls hL => ?_)
  replace hL := hL.nrm (l' := [some _, some _, some _, some _, none, some _, none, some _]) rfl
  have loop3 : ∀ (nf : Nat) (i : Nat), rows - i < nf → i ≤ rows → fFirst (fRow fh fr room height) (rows - i) i = fFirst (fRow fh fr room height) rows 0 → ∀ (H : Heap) (locs : List Loc) (ls : Array Slot), kW D s0.heap.size ad ct H → va_S (kA s0) s.heap H locs → lvP ls 8 [some (.ref (ad kh)), some (.ref (ad kr)), some (.int (nI rows)), some (.double room), none, some (.double height), none, some (.int (nI i))] → W p l e (krm 0 0 0 0) s m args below meth c H locs 0 0 Q (F0 m 3 ls []) := by
    intro nf
    induction nf with
    | zero => intro i hms3; exact absurd hms3 (Nat.not_lt_zero _)
    | succ nf ih3 =>
      intro i hms3 hi hf H locs ls hW hS hL
      refine lv_iload hx hb dX11_first_3 (hL.at 7 rfl) ?_
      refine lv_iload_n hx hb dX11_first_5 rfl (hL.at 2 rfl) ?_
      refine lv_icmp_ge (tgt := 34) hx hb dX11_first_6 (by decide) (fun c6 => ?_) (fun c6 => ?_)
      · try dsimp only at c6
        have ej : i = rows := by have := (nI_leI (by omega) (by omega)).mp c6; omega
        refine lv_iload hx hb dX11_first_34 (hL.at 7 rfl) ?_
        rw [hQ]
        exact k_iret hx hb hr hlocks hW hS (by omega) (by omega) dX11_first_36 (⟨by first | (rw [← hf, ej, Nat.sub_self]; rfl) | rw [← hf], rfl, rfl⟩)
      · try dsimp only at c6
        have hlt : i < rows := by
          rcases Nat.lt_or_ge i (rows) with q | q
          · exact q
          · exact absurd (nI_le q (by omega)) c6
        refine lv_aload_n hx hb dX11_first_9 rfl (hL.at 1 rfl) ?_
        refine lv_iload hx hb dX11_first_10 (hL.at 7 rfl) ?_
        refine k_dald hx hb hK hW (by first | with_reducible assumption | with_reducible exact up_s | (rw [up_n (by omega)]; first | with_reducible assumption | with_reducible exact up_s | (rw [up_n (by omega)]; first | with_reducible assumption | with_reducible exact up_s | (rw [up_n (by omega)]; first | with_reducible assumption | with_reducible exact up_s | (rw [up_n (by omega)]; first | with_reducible assumption | with_reducible exact up_s | (rw [up_n (by omega)]; first | with_reducible assumption | with_reducible exact up_s | (rw [up_n (by omega)]; first | with_reducible assumption | with_reducible exact up_s | (rw [up_n (by omega)]; first | with_reducible assumption | with_reducible exact up_s | (rw [up_n (by omega)]; first | with_reducible assumption | with_reducible exact up_s | (rw [up_n (by omega)]; first | with_reducible assumption | with_reducible exact up_s | (rw [up_n (by omega)]; first | with_reducible assumption | with_reducible exact up_s | (rw [up_n (by omega)]; first | with_reducible assumption | with_reducible exact up_s)))))))))))) i (by omega) (by omega) rfl dX11_first_12 ?_
        refine lv_dload_n hx hb dX11_first_13 rfl (hL.at 3 rfl) ?_
        refine lv_dcmp hx hb dX11_first_14 ?_
        refine lv_if_lt (tgt := 28) hx hb dX11_first_15 (by decide) (fun c15 => ?_) (fun c15 => ?_)
        · rw [cg_lt] at c15
          have hp : ¬ fRow fh fr room height i = true := fRow_f (Or.inl (fun z => z (Or.inl c15)))
          refine k_iinc hx hb hL (i := 7) rfl (by decide) dX11_first_28 (fun ls hL => ?_)
          replace hL := hL.nrm (l' := [some _, some _, some _, some _, none, some _, none, some _]) rfl
          refine lv_goto (tgt := 3) hx hb dX11_first_31 (by decide) ?_
          rw [show nI i + Int32.ofInt 1 = nI (i + 1) from nI_1 i] at hL
          exact ih3 (i + 1) (by omega) (by omega) (by rw [← hf, show rows - i = (rows - (i + 1)) + 1 by omega, fFirst_go _ hp]) _ _ _ hW hS hL
        · rw [cg_lt] at c15
          
          refine lv_aload_n hx hb dX11_first_18 rfl (hL.at 0 rfl) ?_
          refine lv_iload hx hb dX11_first_19 (hL.at 7 rfl) ?_
          refine k_dald hx hb hK hW (by first | with_reducible assumption | with_reducible exact up_s | (rw [up_n (by omega)]; first | with_reducible assumption | with_reducible exact up_s | (rw [up_n (by omega)]; first | with_reducible assumption | with_reducible exact up_s | (rw [up_n (by omega)]; first | with_reducible assumption | with_reducible exact up_s | (rw [up_n (by omega)]; first | with_reducible assumption | with_reducible exact up_s | (rw [up_n (by omega)]; first | with_reducible assumption | with_reducible exact up_s | (rw [up_n (by omega)]; first | with_reducible assumption | with_reducible exact up_s | (rw [up_n (by omega)]; first | with_reducible assumption | with_reducible exact up_s | (rw [up_n (by omega)]; first | with_reducible assumption | with_reducible exact up_s | (rw [up_n (by omega)]; first | with_reducible assumption | with_reducible exact up_s | (rw [up_n (by omega)]; first | with_reducible assumption | with_reducible exact up_s | (rw [up_n (by omega)]; first | with_reducible assumption | with_reducible exact up_s)))))))))))) i (by omega) (by omega) rfl dX11_first_21 ?_
          refine lv_dload hx hb dX11_first_22 (hL.at 5 rfl) ?_
          refine lv_dcmp hx hb dX11_first_24 ?_
          refine lv_if_ge (tgt := 34) hx hb dX11_first_25 (by decide) (fun c25 => ?_) (fun c25 => ?_)
          · rw [cg_ge] at c25
            have hp : fRow fh fr room height i = true := fRow_t (dGe_of c15 (hnn i hlt).1) (dGe_of c25 (hnn i hlt).2)
            obtain ⟨d, hd⟩ : ∃ d, rows - i = d + 1 := ⟨rows - i - 1, by omega⟩
            rw [hd, fFirst_at _ hp] at hf
            refine lv_iload hx hb dX11_first_34 (hL.at 7 rfl) ?_
            rw [hQ]
            exact k_iret hx hb hr hlocks hW hS (by omega) (by omega) dX11_first_36 (⟨by first | (rw [← hf, ej, Nat.sub_self]; rfl) | rw [← hf], rfl, rfl⟩)
          · rw [cg_ge] at c25
            have hp : ¬ fRow fh fr room height i = true := fRow_f (Or.inr (fun z => z (Or.inl (by first | exact c25 | exact Decidable.not_not.mp c25))))
            refine k_iinc hx hb hL (i := 7) rfl (by decide) dX11_first_28 (fun ls hL => ?_)
            replace hL := hL.nrm (l' := [some _, some _, some _, some _, none, some _, none, some _]) rfl
            refine lv_goto (tgt := 3) hx hb dX11_first_31 (by decide) ?_
            rw [show nI i + Int32.ofInt 1 = nI (i + 1) from nI_1 i] at hL
            exact ih3 (i + 1) (by omega) (by omega) (by rw [← hf, show rows - i = (rows - (i + 1)) + 1 by omega, fFirst_go _ hp]) _ _ _ hW hS hL
  exact loop3 (rows + 1) 0 (by omega) (Nat.zero_le _) rfl _ _ _ hW hS hL

set_option maxHeartbeats 16000000 in
set_option maxRecDepth 100000 in
/-- TailorBenchModel.place  -/
theorem r_place {l : Launch} {D : va_G} {cy : Nat → ClassId} {sad : Nat → Nat} {em : Nat} {s0 : State} {a0 : Array Value} (G : kG kSTR l D cy sad em s0 a0) {ad : Nat → Nat} {ct : Nat → Option va_E} {jc : Nat} (hjc : jc < 4) {cl : tCl} (hcl : ct (120 + jc) = some (rCl cl)) {g : tGs} (hg : gAll dW2 g) (hg40 : g.1 ≤ 40) (hg0 : 0 < g.1) (hwd : dP 3360 10240 cl.1) (hsp : cl.2.2.2.1 ≤ 20) {bt : Bool} (hbt : bt = decide (cl.2.2.2.2.1 = 0)) {np : Int32} (hmd : ct 210 = some (.inr (11, [.int 1, .int np, .ref (ad 211)]))) (htd : ct 211 = some (.inl (cy 0, 4, aD (fun _ => 0)))) (hwi : ct 212 = some (.inl (cy 0, g.1, aD g.2.1))) (hhi : ct 213 = some (.inl (cy 0, g.1, aD g.2.2))) (hz1 : ct 214 = none) (hz2 : ct 215 = none) :
    KM l yX11_place [.code yX11_place prog_10_method_22_code 15 none] 6 160 2 80 [.ref (ad 210), .ref (ad 212), .ref (ad 213), .ref (ad (120 + jc))] D s0 ad ct (fun v ad' ct' => v = none ∧ (∀ j, j ≠ 214 → j ≠ 215 → ad' j = ad j) ∧ (((fLay cl.1 cl.2.2.2.1 bt g.2.1 g.2.2 g.1 0 cD0 (0, 0, cD0, fun _ => 0, fun _ => 0)) = none ∧ ct' 210 = some (.inr (11, [.int 0, .int np, .ref (ad 211)]))) ∨ ∃ r, (fLay cl.1 cl.2.2.2.1 bt g.2.1 g.2.2 g.1 0 cD0 (0, 0, cD0, fun _ => 0, fun _ => 0)) = some r ∧ ct' 210 = ct 210 ∧ ct' 211 = some (.inl (cy 0, 4, aD (fTold cl.1 (anL r))))) ∧ ∀ j, j ≠ 210 → j ≠ 211 → (j < 214 ∨ 215 < j) → ct' j = ct j) := by
  refine KM.of G (by decide) (Nat.le_of_ble_eq_true rfl) (Nat.le_of_ble_eq_true rfl) ?_
  intro p e s m args below meth c ls Q hQ X hin hL hW hS
  obtain ⟨hx, hb, hr, hml, hown, hlocks, hts, hq, hK, hI⟩ := X
  have hrun0 := okRun_of (b := bt) (fw := g.2.1) (fl := g.2.2) hwd hsp g.1 0 cD0 (0, 0, cD0, fun _ => 0, fun _ => 0) (fun j _ hj => hg j (by omega)) (by omega) okS_0 (dP_c0.wk (Nat.le_refl _) (Nat.zero_le _))
  replace hL := hL.nrm (l' := [some _, some _, some _, some _, none, none, none, none, none, none, none, none, none, none, none]) rfl
  refine lv_aload_n hx hb dX11_place_0 rfl (hL.at 1 rfl) ?_
  refine k_alen hx hb hK hW (t := 0) (by first | with_reducible assumption | with_reducible exact up_s | (rw [up_n (by omega)]; first | with_reducible assumption | with_reducible exact up_s | (rw [up_n (by omega)]; first | with_reducible assumption | with_reducible exact up_s | (rw [up_n (by omega)]; first | with_reducible assumption | with_reducible exact up_s | (rw [up_n (by omega)]; first | with_reducible assumption | with_reducible exact up_s | (rw [up_n (by omega)]; first | with_reducible assumption | with_reducible exact up_s | (rw [up_n (by omega)]; first | with_reducible assumption | with_reducible exact up_s | (rw [up_n (by omega)]; first | with_reducible assumption | with_reducible exact up_s | (rw [up_n (by omega)]; first | with_reducible assumption | with_reducible exact up_s | (rw [up_n (by omega)]; first | with_reducible assumption | with_reducible exact up_s | (rw [up_n (by omega)]; first | with_reducible assumption | with_reducible exact up_s | (rw [up_n (by omega)]; first | with_reducible assumption | with_reducible exact up_s)))))))))))) rfl dX11_place_1 ?_
  refine k_newarr (atype := .double) hx hb (hq _ q148 rfl) 0 hK rfl (fun C h => by cases h) hW hS hI.2.1 214 hz1 (N := g.1) (a0 := (g.1, aD (fun _ => 0))) (fun _ => rfl) rfl (by omega) (by show _ * 8 ≤ (536870912 : Nat); omega) (by show _ ≤ (2 : Nat); omega) (by show _ ≤ (80 : Nat); omega) dX11_place_2 (fun q2 H hW hS => ?_)
  obtain ⟨adA, hd2⟩ : ∃ z, z = upA ad 214 q2 := ⟨_, rfl⟩
  rw [← hd2] at hW ⊢
  have hdk2 : ∀ j, j ≠ 214 → adA j = ad j := fun j hj => by rw [hd2]; exact upA_n hj
  rw [← hdk2 210 (by omega)] at hL
  rw [← hdk2 212 (by omega)] at hL
  rw [← hdk2 213 (by omega)] at hL
  rw [← hdk2 (120 + jc) (by omega)] at hL
  refine k_ast hx hb hL (i := 4) (by decide) dX11_place_4 (fun ls hL => ?_)
  replace hL := hL.nrm (l' := [some _, some _, some _, some _, some _, none, none, none, none, none, none, none, none, none, none]) rfl
  refine lv_aload_n hx hb dX11_place_6 rfl (hL.at 1 rfl) ?_
  refine k_alen hx hb hK hW (t := 0) (by first | with_reducible assumption | with_reducible exact up_s | (rw [up_n (by omega)]; first | with_reducible assumption | with_reducible exact up_s | (rw [up_n (by omega)]; first | with_reducible assumption | with_reducible exact up_s | (rw [up_n (by omega)]; first | with_reducible assumption | with_reducible exact up_s | (rw [up_n (by omega)]; first | with_reducible assumption | with_reducible exact up_s | (rw [up_n (by omega)]; first | with_reducible assumption | with_reducible exact up_s | (rw [up_n (by omega)]; first | with_reducible assumption | with_reducible exact up_s | (rw [up_n (by omega)]; first | with_reducible assumption | with_reducible exact up_s | (rw [up_n (by omega)]; first | with_reducible assumption | with_reducible exact up_s | (rw [up_n (by omega)]; first | with_reducible assumption | with_reducible exact up_s | (rw [up_n (by omega)]; first | with_reducible assumption | with_reducible exact up_s | (rw [up_n (by omega)]; first | with_reducible assumption | with_reducible exact up_s)))))))))))) rfl dX11_place_7 ?_
  refine k_newarr (atype := .double) hx hb (hq _ q148 rfl) 0 hK rfl (fun C h => by cases h) hW hS hI.2.1 215 ((up_n (by omega)).trans hz2) (N := g.1) (a0 := (g.1, aD (fun _ => 0))) (fun _ => rfl) rfl (by omega) (by show _ * 8 ≤ (536870912 : Nat); omega) (by show _ ≤ (2 : Nat); omega) (by show _ ≤ (80 : Nat); omega) dX11_place_8 (fun q8 H hW hS => ?_)
  obtain ⟨adB, hd8⟩ : ∃ z, z = upA adA 215 q8 := ⟨_, rfl⟩
  rw [← hd8] at hW ⊢
  have hdk8 : ∀ j, j ≠ 215 → adB j = adA j := fun j hj => by rw [hd8]; exact upA_n hj
  rw [← hdk8 210 (by omega)] at hL
  rw [← hdk8 212 (by omega)] at hL
  rw [← hdk8 213 (by omega)] at hL
  rw [← hdk8 (120 + jc) (by omega)] at hL
  rw [← hdk8 214 (by omega)] at hL
  refine k_ast hx hb hL (i := 5) (by decide) dX11_place_10 (fun ls hL => ?_)
  replace hL := hL.nrm (l' := [some _, some _, some _, some _, some _, some _, none, none, none, none, none, none, none, none, none]) rfl
  refine lv_iconst (v := 0) hx hb dX11_place_12 (by decide) ?_
  refine k_ist hx hb hL (i := 6) (by decide) dX11_place_13 (fun ls hL => ?_)
  replace hL := hL.nrm (l' := [some _, some _, some _, some _, some _, some _, some _, none, none, none, none, none, none, none, none]) rfl
  refine lv_iconst (v := 0) hx hb dX11_place_15 (by decide) ?_
  refine k_ist hx hb hL (i := 7) (by decide) dX11_place_16 (fun ls hL => ?_)
  replace hL := hL.nrm (l' := [some _, some _, some _, some _, some _, some _, some _, some _, none, none, none, none, none, none, none]) rfl
  refine lv_dconst0 hx hb dX11_place_18 ?_
  refine k_dst hx hb hL (i := 8) (by decide) dX11_place_19 (fun ls hL => ?_)
  replace hL := hL.nrm (l' := [some _, some _, some _, some _, some _, some _, some _, some _, some _, none, none, none, none, none, none]) rfl
  refine lv_iconst (v := 0) hx hb dX11_place_21 (by decide) ?_
  refine k_ist hx hb hL (i := 10) (by decide) dX11_place_22 (fun ls hL => ?_)
  replace hL := hL.nrm (l' := [some _, some _, some _, some _, some _, some _, some _, some _, some _, none, some _, none, none, none, none]) rfl
  have loop24 : ∀ (nf : Nat) (u : Nat) (cov1 : UInt64) (s1 : tLs) (ct1 : Nat → Option va_E), g.1 - u < nf → u ≤ g.1 → fLay cl.1 cl.2.2.2.1 bt g.2.1 g.2.2 (g.1 - u) u cov1 s1 = (fLay cl.1 cl.2.2.2.1 bt g.2.1 g.2.2 g.1 0 cD0 (0, 0, cD0, fun _ => 0, fun _ => 0)) → okRun cl.1 cl.2.2.2.1 bt g.2.1 g.2.2 (g.1 - u) u cov1 s1 → okS cl.1 u s1 → okH s1 → ct1 214 = some (.inl (cy 0, g.1, aD s1.2.2.2.1)) → ct1 215 = some (.inl (cy 0, g.1, aD s1.2.2.2.2)) → (∀ j, j ≠ 211 → (j < 214 ∨ 215 < j) → ct1 j = ct j) → ct1 211 = some (.inl (cy 0, 4, aD (fun _ => 0))) → ∀ (H : Heap) (locs : List Loc) (ls : Array Slot), kW D s0.heap.size adB ct1 H → va_S (kA s0) s.heap H locs → lvP ls 15 [some (.ref (adB 210)), some (.ref (adB 212)), some (.ref (adB 213)), some (.ref (adB (120 + jc))), some (.ref (adB 214)), some (.ref (adB 215)), some (.int (nI s1.1)), some (.int (nI s1.2.1)), some (.double cov1), none, some (.int (nI u)), none, none, none, none] → W p l e (krm 6 160 2 80) s m args below meth c H locs 2 (0 + g.1 + g.1) Q (F0 m 24 ls []) := by
    intro nf
    induction nf with
    | zero => intro u cov1 s1 ct1 hms24; exact absurd hms24 (Nat.not_lt_zero _)
    | succ nf ih24 =>
      intro u cov1 s1 ct1 hms24 hu hl hr2 hS1 hH1 hc214 hc215 hrk h211 H locs ls hW hS hL
      have hcl1 := (hrk (120 + jc) (by omega) (by omega)).trans hcl
      have hwi1 := (hrk 212 (by omega) (by omega)).trans hwi
      have hhi1 := (hrk 213 (by omega) (by omega)).trans hhi
      have hmd1 := (hrk 210 (by omega) (by omega)).trans hmd
      refine lv_iload hx hb dX11_place_24 (hL.at 10 rfl) ?_
      refine lv_aload_n hx hb dX11_place_26 rfl (hL.at 1 rfl) ?_
      refine k_alen hx hb hK hW (t := 0) (by first | with_reducible assumption | with_reducible exact up_s | (rw [up_n (by omega)]; first | with_reducible assumption | with_reducible exact up_s | (rw [up_n (by omega)]; first | with_reducible assumption | with_reducible exact up_s | (rw [up_n (by omega)]; first | with_reducible assumption | with_reducible exact up_s | (rw [up_n (by omega)]; first | with_reducible assumption | with_reducible exact up_s | (rw [up_n (by omega)]; first | with_reducible assumption | with_reducible exact up_s | (rw [up_n (by omega)]; first | with_reducible assumption | with_reducible exact up_s | (rw [up_n (by omega)]; first | with_reducible assumption | with_reducible exact up_s | (rw [up_n (by omega)]; first | with_reducible assumption | with_reducible exact up_s | (rw [up_n (by omega)]; first | with_reducible assumption | with_reducible exact up_s | (rw [up_n (by omega)]; first | with_reducible assumption | with_reducible exact up_s | (rw [up_n (by omega)]; first | with_reducible assumption | with_reducible exact up_s)))))))))))) rfl dX11_place_27 ?_
      refine lv_icmp_ge (tgt := 299) hx hb dX11_place_28 (by decide) (fun c28 => ?_) (fun c28 => ?_)
      · try dsimp only at c28
        have ej : u = g.1 := by have := (nI_leI (by omega) (by omega)).mp c28; omega
        rw [ej, Nat.sub_self] at hl
        have hout : (fLay cl.1 cl.2.2.2.1 bt g.2.1 g.2.2 g.1 0 cD0 (0, 0, cD0, fun _ => 0, fun _ => 0)) = some (cov1, s1) := hl.symm
        refine lv_dconst0 hx hb dX11_place_299 ?_
        refine k_dst hx hb hL (i := 10) (by decide) dX11_place_300 (fun ls hL => ?_)
        replace hL := hL.nrm (l' := [some _, some _, some _, some _, some _, some _, some _, some _, some _, none, some _, none, none, none, none]) rfl
        refine lv_iconst (v := 0) hx hb dX11_place_302 (by decide) ?_
        refine k_ist hx hb hL (i := 12) (by decide) dX11_place_303 (fun ls hL => ?_)
        replace hL := hL.nrm (l' := [some _, some _, some _, some _, some _, some _, some _, some _, some _, none, some _, none, some _, none, none]) rfl
        have loop305 : ∀ (nf : Nat) (w2 : Nat), s1.1 - w2 < nf → w2 ≤ s1.1 → ∀ (H : Heap) (locs : List Loc) (ls : Array Slot), kW D s0.heap.size adB ct1 H → va_S (kA s0) s.heap H locs → lvP ls 15 [some (.ref (adB 210)), some (.ref (adB 212)), some (.ref (adB 213)), some (.ref (adB (120 + jc))), some (.ref (adB 214)), some (.ref (adB 215)), some (.int (nI s1.1)), some (.int (nI s1.2.1)), some (.double cov1), none, some (.double (fSumH s1.2.2.2.1 w2)), none, some (.int (nI w2)), none, none] → W p l e (krm 6 160 2 80) s m args below meth c H locs 2 (0 + g.1 + g.1) Q (F0 m 305 ls []) := by
          intro nf
          induction nf with
          | zero => intro w2 hms305; exact absurd hms305 (Nat.not_lt_zero _)
          | succ nf ih305 =>
            intro w2 hms305 hw2 H locs ls hW hS hL
            have hs40 := hS1.1
            refine lv_iload hx hb dX11_place_305 (hL.at 12 rfl) ?_
            refine lv_iload hx hb dX11_place_307 (hL.at 6 rfl) ?_
            refine lv_icmp_ge (tgt := 328) hx hb dX11_place_309 (by decide) (fun c309 => ?_) (fun c309 => ?_)
            · try dsimp only at c309
              have ej2 : w2 = s1.1 := by have := (nI_leI (by omega) (by omega)).mp c309; omega
              have hq9 := hrun0.2 _ hout
              have hwst : okWst (fSumH s1.2.2.2.1 s1.1) cov1 cl.1 := by
                rw [← hH1.2]
                exact okWst_of (hq9.2.2 (Or.inl hg0)) (by have := hq9.1.1; omega) hq9.1.2.1 (hq9.2.1.wk (Nat.le_refl _) (by omega)) hwd
              rw [ej2] at hL
              refine lv_aload_n hx hb dX11_place_328 rfl (hL.at 0 rfl) ?_
              refine k_getN (ci := 11) (C := RX9) (T := TX9) (N := 3) hx hb hts w_RX9 hown hK hW (by first | with_reducible assumption | with_reducible exact up_s | (rw [up_n (by omega)]; first | with_reducible assumption | with_reducible exact up_s | (rw [up_n (by omega)]; first | with_reducible assumption | with_reducible exact up_s | (rw [up_n (by omega)]; first | with_reducible assumption | with_reducible exact up_s | (rw [up_n (by omega)]; first | with_reducible assumption | with_reducible exact up_s | (rw [up_n (by omega)]; first | with_reducible assumption | with_reducible exact up_s | (rw [up_n (by omega)]; first | with_reducible assumption | with_reducible exact up_s | (rw [up_n (by omega)]; first | with_reducible assumption | with_reducible exact up_s | (rw [up_n (by omega)]; first | with_reducible assumption | with_reducible exact up_s | (rw [up_n (by omega)]; first | with_reducible assumption | with_reducible exact up_s | (rw [up_n (by omega)]; first | with_reducible assumption | with_reducible exact up_s | (rw [up_n (by omega)]; first | with_reducible assumption | with_reducible exact up_s)))))))))))) rfl 2 (by decide) (hq _ q1205 rfl) (fun _ h9 => h9) (by rfl) dX11_place_329 ?_
              rw [← hdk2 211 (by omega), ← hdk8 211 (by omega)]
              refine lv_iconst (v := 0) hx hb dX11_place_332 (by decide) ?_
              refine lv_dload hx hb dX11_place_333 (hL.at 10 rfl) ?_
              refine k_dast hx hb hK hW hS (by first | with_reducible assumption | with_reducible exact up_s | (rw [up_n (by omega)]; first | with_reducible assumption | with_reducible exact up_s | (rw [up_n (by omega)]; first | with_reducible assumption | with_reducible exact up_s | (rw [up_n (by omega)]; first | with_reducible assumption | with_reducible exact up_s | (rw [up_n (by omega)]; first | with_reducible assumption | with_reducible exact up_s | (rw [up_n (by omega)]; first | with_reducible assumption | with_reducible exact up_s | (rw [up_n (by omega)]; first | with_reducible assumption | with_reducible exact up_s | (rw [up_n (by omega)]; first | with_reducible assumption | with_reducible exact up_s | (rw [up_n (by omega)]; first | with_reducible assumption | with_reducible exact up_s | (rw [up_n (by omega)]; first | with_reducible assumption | with_reducible exact up_s | (rw [up_n (by omega)]; first | with_reducible assumption | with_reducible exact up_s | (rw [up_n (by omega)]; first | with_reducible assumption | with_reducible exact up_s)))))))))))) (by omega) 0 (by omega) (by omega) rfl dX11_place_335 (fun H locs hW hS => ?_)
              refine lv_aload_n hx hb dX11_place_336 rfl (hL.at 0 rfl) ?_
              refine k_getN (ci := 11) (C := RX9) (T := TX9) (N := 3) hx hb hts w_RX9 hown hK hW (by first | with_reducible assumption | with_reducible exact up_s | (rw [up_n (by omega)]; first | with_reducible assumption | with_reducible exact up_s | (rw [up_n (by omega)]; first | with_reducible assumption | with_reducible exact up_s | (rw [up_n (by omega)]; first | with_reducible assumption | with_reducible exact up_s | (rw [up_n (by omega)]; first | with_reducible assumption | with_reducible exact up_s | (rw [up_n (by omega)]; first | with_reducible assumption | with_reducible exact up_s | (rw [up_n (by omega)]; first | with_reducible assumption | with_reducible exact up_s | (rw [up_n (by omega)]; first | with_reducible assumption | with_reducible exact up_s | (rw [up_n (by omega)]; first | with_reducible assumption | with_reducible exact up_s | (rw [up_n (by omega)]; first | with_reducible assumption | with_reducible exact up_s | (rw [up_n (by omega)]; first | with_reducible assumption | with_reducible exact up_s | (rw [up_n (by omega)]; first | with_reducible assumption | with_reducible exact up_s)))))))))))) rfl 2 (by decide) (hq _ q1205 rfl) (fun _ h9 => h9) (by rfl) dX11_place_337 ?_
              rw [← hdk2 211 (by omega), ← hdk8 211 (by omega)]
              refine lv_iconst (v := 1) hx hb dX11_place_340 (by decide) ?_
              refine lv_dconst1 hx hb dX11_place_341 ?_
              refine lv_dload hx hb dX11_place_342 (hL.at 8 rfl) ?_
              refine lv_dload hx hb dX11_place_344 (hL.at 10 rfl) ?_
              refine lv_aload_n hx hb dX11_place_346 rfl (hL.at 3 rfl) ?_
              refine k_getN (ci := 10) (C := RX8) (T := TX8) (N := 6) hx hb hts w_RX8 hown hK hW (by first | with_reducible assumption | with_reducible exact up_s | (rw [up_n (by omega)]; first | with_reducible assumption | with_reducible exact up_s | (rw [up_n (by omega)]; first | with_reducible assumption | with_reducible exact up_s | (rw [up_n (by omega)]; first | with_reducible assumption | with_reducible exact up_s | (rw [up_n (by omega)]; first | with_reducible assumption | with_reducible exact up_s | (rw [up_n (by omega)]; first | with_reducible assumption | with_reducible exact up_s | (rw [up_n (by omega)]; first | with_reducible assumption | with_reducible exact up_s | (rw [up_n (by omega)]; first | with_reducible assumption | with_reducible exact up_s | (rw [up_n (by omega)]; first | with_reducible assumption | with_reducible exact up_s | (rw [up_n (by omega)]; first | with_reducible assumption | with_reducible exact up_s | (rw [up_n (by omega)]; first | with_reducible assumption | with_reducible exact up_s | (rw [up_n (by omega)]; first | with_reducible assumption | with_reducible exact up_s)))))))))))) rfl 0 (by decide) (hq _ q937 rfl) (fun _ h9 => h9) (by rfl) dX11_place_347 ?_
              refine lv_dmul hx hb dX11_place_350 hwst.2.1 ?_
              refine lv_ddiv hx hb dX11_place_351 hwst.2.2.1 ?_
              refine lv_dsub hx hb dX11_place_352 hwst.2.2.2 ?_
              refine k_dast hx hb hK hW hS (by first | with_reducible assumption | with_reducible exact up_s | (rw [up_n (by omega)]; first | with_reducible assumption | with_reducible exact up_s | (rw [up_n (by omega)]; first | with_reducible assumption | with_reducible exact up_s | (rw [up_n (by omega)]; first | with_reducible assumption | with_reducible exact up_s | (rw [up_n (by omega)]; first | with_reducible assumption | with_reducible exact up_s | (rw [up_n (by omega)]; first | with_reducible assumption | with_reducible exact up_s | (rw [up_n (by omega)]; first | with_reducible assumption | with_reducible exact up_s | (rw [up_n (by omega)]; first | with_reducible assumption | with_reducible exact up_s | (rw [up_n (by omega)]; first | with_reducible assumption | with_reducible exact up_s | (rw [up_n (by omega)]; first | with_reducible assumption | with_reducible exact up_s | (rw [up_n (by omega)]; first | with_reducible assumption | with_reducible exact up_s | (rw [up_n (by omega)]; first | with_reducible assumption | with_reducible exact up_s)))))))))))) (by omega) 1 (by omega) (by omega) rfl dX11_place_353 (fun H locs hW hS => ?_)
              refine lv_aload_n hx hb dX11_place_354 rfl (hL.at 0 rfl) ?_
              refine k_getN (ci := 11) (C := RX9) (T := TX9) (N := 3) hx hb hts w_RX9 hown hK hW (by first | with_reducible assumption | with_reducible exact up_s | (rw [up_n (by omega)]; first | with_reducible assumption | with_reducible exact up_s | (rw [up_n (by omega)]; first | with_reducible assumption | with_reducible exact up_s | (rw [up_n (by omega)]; first | with_reducible assumption | with_reducible exact up_s | (rw [up_n (by omega)]; first | with_reducible assumption | with_reducible exact up_s | (rw [up_n (by omega)]; first | with_reducible assumption | with_reducible exact up_s | (rw [up_n (by omega)]; first | with_reducible assumption | with_reducible exact up_s | (rw [up_n (by omega)]; first | with_reducible assumption | with_reducible exact up_s | (rw [up_n (by omega)]; first | with_reducible assumption | with_reducible exact up_s | (rw [up_n (by omega)]; first | with_reducible assumption | with_reducible exact up_s | (rw [up_n (by omega)]; first | with_reducible assumption | with_reducible exact up_s | (rw [up_n (by omega)]; first | with_reducible assumption | with_reducible exact up_s)))))))))))) rfl 2 (by decide) (hq _ q1205 rfl) (fun _ h9 => h9) (by rfl) dX11_place_355 ?_
              rw [← hdk2 211 (by omega), ← hdk8 211 (by omega)]
              refine lv_iconst (v := 2) hx hb dX11_place_358 (by decide) ?_
              refine lv_iload hx hb dX11_place_359 (hL.at 6 rfl) ?_
              refine lv_i2d hx hb dX11_place_361 ?_
              refine k_dast hx hb hK hW hS (by first | with_reducible assumption | with_reducible exact up_s | (rw [up_n (by omega)]; first | with_reducible assumption | with_reducible exact up_s | (rw [up_n (by omega)]; first | with_reducible assumption | with_reducible exact up_s | (rw [up_n (by omega)]; first | with_reducible assumption | with_reducible exact up_s | (rw [up_n (by omega)]; first | with_reducible assumption | with_reducible exact up_s | (rw [up_n (by omega)]; first | with_reducible assumption | with_reducible exact up_s | (rw [up_n (by omega)]; first | with_reducible assumption | with_reducible exact up_s | (rw [up_n (by omega)]; first | with_reducible assumption | with_reducible exact up_s | (rw [up_n (by omega)]; first | with_reducible assumption | with_reducible exact up_s | (rw [up_n (by omega)]; first | with_reducible assumption | with_reducible exact up_s | (rw [up_n (by omega)]; first | with_reducible assumption | with_reducible exact up_s | (rw [up_n (by omega)]; first | with_reducible assumption | with_reducible exact up_s)))))))))))) (by omega) 2 (by omega) (by omega) rfl dX11_place_362 (fun H locs hW hS => ?_)
              refine lv_aload_n hx hb dX11_place_363 rfl (hL.at 0 rfl) ?_
              refine k_getN (ci := 11) (C := RX9) (T := TX9) (N := 3) hx hb hts w_RX9 hown hK hW (by first | with_reducible assumption | with_reducible exact up_s | (rw [up_n (by omega)]; first | with_reducible assumption | with_reducible exact up_s | (rw [up_n (by omega)]; first | with_reducible assumption | with_reducible exact up_s | (rw [up_n (by omega)]; first | with_reducible assumption | with_reducible exact up_s | (rw [up_n (by omega)]; first | with_reducible assumption | with_reducible exact up_s | (rw [up_n (by omega)]; first | with_reducible assumption | with_reducible exact up_s | (rw [up_n (by omega)]; first | with_reducible assumption | with_reducible exact up_s | (rw [up_n (by omega)]; first | with_reducible assumption | with_reducible exact up_s | (rw [up_n (by omega)]; first | with_reducible assumption | with_reducible exact up_s | (rw [up_n (by omega)]; first | with_reducible assumption | with_reducible exact up_s | (rw [up_n (by omega)]; first | with_reducible assumption | with_reducible exact up_s | (rw [up_n (by omega)]; first | with_reducible assumption | with_reducible exact up_s)))))))))))) rfl 2 (by decide) (hq _ q1205 rfl) (fun _ h9 => h9) (by rfl) dX11_place_364 ?_
              rw [← hdk2 211 (by omega), ← hdk8 211 (by omega)]
              refine lv_iconst (v := 3) hx hb dX11_place_367 (by decide) ?_
              refine lv_iload hx hb dX11_place_368 (hL.at 7 rfl) ?_
              refine lv_i2d hx hb dX11_place_370 ?_
              refine k_dast hx hb hK hW hS (by first | with_reducible assumption | with_reducible exact up_s | (rw [up_n (by omega)]; first | with_reducible assumption | with_reducible exact up_s | (rw [up_n (by omega)]; first | with_reducible assumption | with_reducible exact up_s | (rw [up_n (by omega)]; first | with_reducible assumption | with_reducible exact up_s | (rw [up_n (by omega)]; first | with_reducible assumption | with_reducible exact up_s | (rw [up_n (by omega)]; first | with_reducible assumption | with_reducible exact up_s | (rw [up_n (by omega)]; first | with_reducible assumption | with_reducible exact up_s | (rw [up_n (by omega)]; first | with_reducible assumption | with_reducible exact up_s | (rw [up_n (by omega)]; first | with_reducible assumption | with_reducible exact up_s | (rw [up_n (by omega)]; first | with_reducible assumption | with_reducible exact up_s | (rw [up_n (by omega)]; first | with_reducible assumption | with_reducible exact up_s | (rw [up_n (by omega)]; first | with_reducible assumption | with_reducible exact up_s)))))))))))) (by omega) 3 (by omega) (by omega) rfl dX11_place_371 (fun H locs hW hS => ?_)
              rw [hQ]
              exact k_vret hx hb hr hlocks hW hS (by omega) (by omega) dX11_place_372 (⟨rfl, fun j h1 h2 => (hdk8 j h2).trans (hdk2 j h1), Or.inr ⟨(cov1, s1), hout, (up_n (by omega)).trans ((up_n (by omega)).trans ((up_n (by omega)).trans ((up_n (by omega)).trans (hrk 210 (by omega) (by omega))))), by rw [show fTold cl.1 (anL (cov1, s1)) = fTold cl.1 (cov1, s1.1, s1.2.1, fSumH s1.2.2.2.1 s1.1) by rw [← hH1.2]]; exact up_s⟩, fun j a b c9 => (up_n b).trans ((up_n b).trans ((up_n b).trans ((up_n b).trans (hrk j b c9))))⟩)
            · try dsimp only at c309
              have hlt2 : w2 < s1.1 := by
                rcases Nat.lt_or_ge w2 (s1.1) with q | q
                · exact q
                · exact absurd (nI_le q (by omega)) c309
              refine lv_dload hx hb dX11_place_312 (hL.at 10 rfl) ?_
              refine lv_aload hx hb dX11_place_314 (hL.at 4 rfl) ?_
              refine lv_iload hx hb dX11_place_316 (hL.at 12 rfl) ?_
              refine k_dald hx hb hK hW (by first | with_reducible assumption | with_reducible exact up_s | (rw [up_n (by omega)]; first | with_reducible assumption | with_reducible exact up_s | (rw [up_n (by omega)]; first | with_reducible assumption | with_reducible exact up_s | (rw [up_n (by omega)]; first | with_reducible assumption | with_reducible exact up_s | (rw [up_n (by omega)]; first | with_reducible assumption | with_reducible exact up_s | (rw [up_n (by omega)]; first | with_reducible assumption | with_reducible exact up_s | (rw [up_n (by omega)]; first | with_reducible assumption | with_reducible exact up_s | (rw [up_n (by omega)]; first | with_reducible assumption | with_reducible exact up_s | (rw [up_n (by omega)]; first | with_reducible assumption | with_reducible exact up_s | (rw [up_n (by omega)]; first | with_reducible assumption | with_reducible exact up_s | (rw [up_n (by omega)]; first | with_reducible assumption | with_reducible exact up_s | (rw [up_n (by omega)]; first | with_reducible assumption | with_reducible exact up_s)))))))))))) w2 (by omega) (by omega) rfl dX11_place_318 ?_
              refine lv_dadd hx hb dX11_place_319 (vf_of (fSumH_ok (w2 + 1) (by omega) (fun r hr => hH1.1 r (by omega))).nn) ?_
              refine k_dst hx hb hL (i := 10) (by decide) dX11_place_320 (fun ls hL => ?_)
              replace hL := hL.nrm (l' := [some _, some _, some _, some _, some _, some _, some _, some _, some _, none, some _, none, some _, none, none]) rfl
              refine k_iinc hx hb hL (i := 12) rfl (by decide) dX11_place_322 (fun ls hL => ?_)
              replace hL := hL.nrm (l' := [some _, some _, some _, some _, some _, some _, some _, some _, some _, none, some _, none, some _, none, none]) rfl
              refine lv_goto (tgt := 305) hx hb dX11_place_325 (by decide) ?_
              rw [show nI w2 + Int32.ofInt 1 = nI (w2 + 1) from nI_1 _] at hL
              exact ih305 (w2 + 1) (by omega) (by omega) _ _ _ hW hS (hL.le (by repeat (first | exact kle_nil | refine kle_same ?_ | refine kle_drop ?_)))
        have hsn := hS1.1
        exact loop305 (s1.1 + 1) 0 (by omega) (Nat.zero_le _) _ _ _ hW hS (hL.le (by repeat (first | exact kle_nil | refine kle_same ?_ | refine kle_drop ?_)))
      · try dsimp only at c28
        have hlt : u < g.1 := by
          rcases Nat.lt_or_ge u g.1 with q9 | q9
          · exact q9
          · exact absurd (nI_le q9 (by omega)) c28
        obtain ⟨d, hd⟩ : ∃ d, g.1 - u = d + 1 := ⟨g.1 - u - 1, by omega⟩
        rw [hd] at hr2 hl
        obtain ⟨hokp, hmul, hadd, hnext⟩ := hr2
        obtain ⟨hw, ht⟩ := hg u hlt
        have hsu := hS1.1
        refine lv_dload hx hb dX11_place_31 (hL.at 8 rfl) ?_
        refine lv_aload_n hx hb dX11_place_33 rfl (hL.at 1 rfl) ?_
        refine lv_iload hx hb dX11_place_34 (hL.at 10 rfl) ?_
        refine k_dald hx hb hK hW (by first | with_reducible assumption | with_reducible exact up_s | (rw [up_n (by omega)]; first | with_reducible assumption | with_reducible exact up_s | (rw [up_n (by omega)]; first | with_reducible assumption | with_reducible exact up_s | (rw [up_n (by omega)]; first | with_reducible assumption | with_reducible exact up_s | (rw [up_n (by omega)]; first | with_reducible assumption | with_reducible exact up_s | (rw [up_n (by omega)]; first | with_reducible assumption | with_reducible exact up_s | (rw [up_n (by omega)]; first | with_reducible assumption | with_reducible exact up_s | (rw [up_n (by omega)]; first | with_reducible assumption | with_reducible exact up_s | (rw [up_n (by omega)]; first | with_reducible assumption | with_reducible exact up_s | (rw [up_n (by omega)]; first | with_reducible assumption | with_reducible exact up_s | (rw [up_n (by omega)]; first | with_reducible assumption | with_reducible exact up_s | (rw [up_n (by omega)]; first | with_reducible assumption | with_reducible exact up_s)))))))))))) u (by omega) (by omega) rfl dX11_place_36 ?_
        refine lv_aload_n hx hb dX11_place_37 rfl (hL.at 2 rfl) ?_
        refine lv_iload hx hb dX11_place_38 (hL.at 10 rfl) ?_
        refine k_dald hx hb hK hW (by first | with_reducible assumption | with_reducible exact up_s | (rw [up_n (by omega)]; first | with_reducible assumption | with_reducible exact up_s | (rw [up_n (by omega)]; first | with_reducible assumption | with_reducible exact up_s | (rw [up_n (by omega)]; first | with_reducible assumption | with_reducible exact up_s | (rw [up_n (by omega)]; first | with_reducible assumption | with_reducible exact up_s | (rw [up_n (by omega)]; first | with_reducible assumption | with_reducible exact up_s | (rw [up_n (by omega)]; first | with_reducible assumption | with_reducible exact up_s | (rw [up_n (by omega)]; first | with_reducible assumption | with_reducible exact up_s | (rw [up_n (by omega)]; first | with_reducible assumption | with_reducible exact up_s | (rw [up_n (by omega)]; first | with_reducible assumption | with_reducible exact up_s | (rw [up_n (by omega)]; first | with_reducible assumption | with_reducible exact up_s | (rw [up_n (by omega)]; first | with_reducible assumption | with_reducible exact up_s)))))))))))) u (by omega) (by omega) rfl dX11_place_40 ?_
        refine lv_dmul hx hb dX11_place_41 hmul ?_
        refine lv_dadd hx hb dX11_place_42 hadd ?_
        refine k_dst hx hb hL (i := 8) (by decide) dX11_place_43 (fun ls hL => ?_)
        replace hL := hL.nrm (l' := [some _, some _, some _, some _, some _, some _, some _, some _, some _, none, some _, none, none, none, none]) rfl
        refine lv_aload hx hb dX11_place_45 (hL.at 4 rfl) ?_
        refine lv_aload hx hb dX11_place_47 (hL.at 5 rfl) ?_
        refine lv_iload hx hb dX11_place_49 (hL.at 6 rfl) ?_
        refine lv_aload_n hx hb dX11_place_51 rfl (hL.at 1 rfl) ?_
        refine lv_iload hx hb dX11_place_52 (hL.at 10 rfl) ?_
        refine k_dald hx hb hK hW (by first | with_reducible assumption | with_reducible exact up_s | (rw [up_n (by omega)]; first | with_reducible assumption | with_reducible exact up_s | (rw [up_n (by omega)]; first | with_reducible assumption | with_reducible exact up_s | (rw [up_n (by omega)]; first | with_reducible assumption | with_reducible exact up_s | (rw [up_n (by omega)]; first | with_reducible assumption | with_reducible exact up_s | (rw [up_n (by omega)]; first | with_reducible assumption | with_reducible exact up_s | (rw [up_n (by omega)]; first | with_reducible assumption | with_reducible exact up_s | (rw [up_n (by omega)]; first | with_reducible assumption | with_reducible exact up_s | (rw [up_n (by omega)]; first | with_reducible assumption | with_reducible exact up_s | (rw [up_n (by omega)]; first | with_reducible assumption | with_reducible exact up_s | (rw [up_n (by omega)]; first | with_reducible assumption | with_reducible exact up_s | (rw [up_n (by omega)]; first | with_reducible assumption | with_reducible exact up_s)))))))))))) u (by omega) (by omega) rfl dX11_place_54 ?_
        refine lv_aload_n hx hb dX11_place_55 rfl (hL.at 2 rfl) ?_
        refine lv_iload hx hb dX11_place_56 (hL.at 10 rfl) ?_
        refine k_dald hx hb hK hW (by first | with_reducible assumption | with_reducible exact up_s | (rw [up_n (by omega)]; first | with_reducible assumption | with_reducible exact up_s | (rw [up_n (by omega)]; first | with_reducible assumption | with_reducible exact up_s | (rw [up_n (by omega)]; first | with_reducible assumption | with_reducible exact up_s | (rw [up_n (by omega)]; first | with_reducible assumption | with_reducible exact up_s | (rw [up_n (by omega)]; first | with_reducible assumption | with_reducible exact up_s | (rw [up_n (by omega)]; first | with_reducible assumption | with_reducible exact up_s | (rw [up_n (by omega)]; first | with_reducible assumption | with_reducible exact up_s | (rw [up_n (by omega)]; first | with_reducible assumption | with_reducible exact up_s | (rw [up_n (by omega)]; first | with_reducible assumption | with_reducible exact up_s | (rw [up_n (by omega)]; first | with_reducible assumption | with_reducible exact up_s | (rw [up_n (by omega)]; first | with_reducible assumption | with_reducible exact up_s)))))))))))) u (by omega) (by omega) rfl dX11_place_58 ?_
        refine k_callS hx hb hml hown hts hI hS hW hL.1 (r_first G (kh := 214) (kr := 215) (N := g.1) (rows := s1.1) hc214 hc215 (by omega) hg40 (g.2.1 u) (g.2.2 u) (ref_no hS1 hH1 hw ht)) (m4 (gT_in q1231 rfl) (gT_in q1232 rfl) (gT_in q57 rfl) (gT_in q1233 rfl)) (show kpar yX11_first 5 from ⟨by decide, by decide, by decide +kernel⟩) ⟨by decide, by decide⟩ (by show _ ≤ (2 : Nat); omega) (by show _ ≤ (80 : Nat); omega) rfl (by first | decide | exact Nat.le_of_ble_eq_true rfl) dX11_place_59 (fun v ad59 ct59 H locs hp hW hS => ?_)
        obtain ⟨rfl, h1, h2⟩ := hp
        rw [h1, h2] at hW
        obtain ⟨f1, hf1⟩ : ∃ z, z = fFirst (fRow s1.2.2.2.1 s1.2.2.2.2 (g.2.1 u) (g.2.2 u)) s1.1 0 := ⟨_, rfl⟩
        rw [← hf1]
        have hfl1 : f1 ≤ s1.1 := by rw [hf1]; have := (fFirst_le (fRow s1.2.2.2.1 s1.2.2.2.2 (g.2.1 u) (g.2.2 u)) s1.1 0).2; omega
        refine k_ist hx hb hL (i := 11) (by decide) dX11_place_62 (fun ls hL => ?_)
        replace hL := hL.nrm (l' := [some _, some _, some _, some _, some _, some _, some _, some _, some _, none, some _, some _, none, none, none]) rfl
        refine lv_iload hx hb dX11_place_64 (hL.at 11 rfl) ?_
        refine lv_iload hx hb dX11_place_66 (hL.at 6 rfl) ?_
        refine lv_icmp_ge (tgt := 89) hx hb dX11_place_68 (by decide) (fun c68 => ?_) (fun c68 => ?_)
        · try dsimp only at c68
          have hno1 : fInto s1 (g.2.1 u) (g.2.2 u) = none := by
            unfold fInto
            rw [← hf1, if_neg (by have := (nI_leI (by omega) (by omega)).mp c68; omega)]
          refine lv_aload_n hx hb dX11_place_89 rfl (hL.at 3 rfl) ?_
          refine k_getN (ci := 10) (C := RX8) (T := TX8) (N := 6) hx hb hts w_RX8 hown hK hW (by first | with_reducible assumption | with_reducible exact up_s | (rw [up_n (by omega)]; first | with_reducible assumption | with_reducible exact up_s | (rw [up_n (by omega)]; first | with_reducible assumption | with_reducible exact up_s | (rw [up_n (by omega)]; first | with_reducible assumption | with_reducible exact up_s | (rw [up_n (by omega)]; first | with_reducible assumption | with_reducible exact up_s | (rw [up_n (by omega)]; first | with_reducible assumption | with_reducible exact up_s | (rw [up_n (by omega)]; first | with_reducible assumption | with_reducible exact up_s | (rw [up_n (by omega)]; first | with_reducible assumption | with_reducible exact up_s | (rw [up_n (by omega)]; first | with_reducible assumption | with_reducible exact up_s | (rw [up_n (by omega)]; first | with_reducible assumption | with_reducible exact up_s | (rw [up_n (by omega)]; first | with_reducible assumption | with_reducible exact up_s | (rw [up_n (by omega)]; first | with_reducible assumption | with_reducible exact up_s)))))))))))) rfl 4 (by decide) (hq _ q942 rfl) (fun _ h9 => h9) (by rfl) dX11_place_90 ?_
          refine lv_if_eq (tgt := 101) hx hb dX11_place_93 (by decide) (fun c93 => ?_) (fun c93 => ?_)
          · try dsimp only at c93
            have hnp0 : cl.2.2.2.2.1 = 0 := c93
            have hbtt : bt = true := by rw [hbt, decide_eq_true hnp0]
            refine lv_aload hx hb dX11_place_101 (hL.at 4 rfl) ?_
            refine lv_aload hx hb dX11_place_103 (hL.at 5 rfl) ?_
            refine lv_iload hx hb dX11_place_105 (hL.at 6 rfl) ?_
            refine lv_aload_n hx hb dX11_place_107 rfl (hL.at 2 rfl) ?_
            refine lv_iload hx hb dX11_place_108 (hL.at 10 rfl) ?_
            refine k_dald hx hb hK hW (by first | with_reducible assumption | with_reducible exact up_s | (rw [up_n (by omega)]; first | with_reducible assumption | with_reducible exact up_s | (rw [up_n (by omega)]; first | with_reducible assumption | with_reducible exact up_s | (rw [up_n (by omega)]; first | with_reducible assumption | with_reducible exact up_s | (rw [up_n (by omega)]; first | with_reducible assumption | with_reducible exact up_s | (rw [up_n (by omega)]; first | with_reducible assumption | with_reducible exact up_s | (rw [up_n (by omega)]; first | with_reducible assumption | with_reducible exact up_s | (rw [up_n (by omega)]; first | with_reducible assumption | with_reducible exact up_s | (rw [up_n (by omega)]; first | with_reducible assumption | with_reducible exact up_s | (rw [up_n (by omega)]; first | with_reducible assumption | with_reducible exact up_s | (rw [up_n (by omega)]; first | with_reducible assumption | with_reducible exact up_s | (rw [up_n (by omega)]; first | with_reducible assumption | with_reducible exact up_s)))))))))))) u (by omega) (by omega) rfl dX11_place_110 ?_
            refine lv_aload_n hx hb dX11_place_111 rfl (hL.at 1 rfl) ?_
            refine lv_iload hx hb dX11_place_112 (hL.at 10 rfl) ?_
            refine k_dald hx hb hK hW (by first | with_reducible assumption | with_reducible exact up_s | (rw [up_n (by omega)]; first | with_reducible assumption | with_reducible exact up_s | (rw [up_n (by omega)]; first | with_reducible assumption | with_reducible exact up_s | (rw [up_n (by omega)]; first | with_reducible assumption | with_reducible exact up_s | (rw [up_n (by omega)]; first | with_reducible assumption | with_reducible exact up_s | (rw [up_n (by omega)]; first | with_reducible assumption | with_reducible exact up_s | (rw [up_n (by omega)]; first | with_reducible assumption | with_reducible exact up_s | (rw [up_n (by omega)]; first | with_reducible assumption | with_reducible exact up_s | (rw [up_n (by omega)]; first | with_reducible assumption | with_reducible exact up_s | (rw [up_n (by omega)]; first | with_reducible assumption | with_reducible exact up_s | (rw [up_n (by omega)]; first | with_reducible assumption | with_reducible exact up_s | (rw [up_n (by omega)]; first | with_reducible assumption | with_reducible exact up_s)))))))))))) u (by omega) (by omega) rfl dX11_place_114 ?_
            refine k_callS hx hb hml hown hts hI hS hW hL.1 (r_first G (kh := 214) (kr := 215) (N := g.1) (rows := s1.1) hc214 hc215 (by omega) hg40 (g.2.2 u) (g.2.1 u) (ref_no hS1 hH1 ht hw)) (m4 (gT_in q1231 rfl) (gT_in q1232 rfl) (gT_in q57 rfl) (gT_in q1233 rfl)) (show kpar yX11_first 5 from ⟨by decide, by decide, by decide +kernel⟩) ⟨by decide, by decide⟩ (by show _ ≤ (2 : Nat); omega) (by show _ ≤ (80 : Nat); omega) rfl (by first | decide | exact Nat.le_of_ble_eq_true rfl) dX11_place_115 (fun v ad115 ct115 H locs hp hW hS => ?_)
            obtain ⟨rfl, h1, h2⟩ := hp
            rw [h1, h2] at hW
            obtain ⟨f2, hf2⟩ : ∃ z, z = fFirst (fRow s1.2.2.2.1 s1.2.2.2.2 (g.2.2 u) (g.2.1 u)) s1.1 0 := ⟨_, rfl⟩
            rw [← hf2]
            have hfl2 : f2 ≤ s1.1 := by rw [hf2]; have := (fFirst_le (fRow s1.2.2.2.1 s1.2.2.2.2 (g.2.2 u) (g.2.1 u)) s1.1 0).2; omega
            refine k_ist hx hb hL (i := 11) (by decide) dX11_place_118 (fun ls hL => ?_)
            replace hL := hL.nrm (l' := [some _, some _, some _, some _, some _, some _, some _, some _, some _, none, some _, some _, none, none, none]) rfl
            refine lv_iload hx hb dX11_place_120 (hL.at 11 rfl) ?_
            refine lv_iload hx hb dX11_place_122 (hL.at 6 rfl) ?_
            refine lv_icmp_ge (tgt := 148) hx hb dX11_place_124 (by decide) (fun c124 => ?_) (fun c124 => ?_)
            · try dsimp only at c124
              have hnput : fPut cl.1 cl.2.2.2.1 bt s1 (g.2.1 u) (g.2.2 u) = fPutN cl.1 cl.2.2.2.1 bt s1 (g.2.1 u) (g.2.2 u) := by
                first
                | exact hnput
                | (have hno2 : fInto s1 (g.2.2 u) (g.2.1 u) = none := by
                    unfold fInto
                    rw [← hf2, if_neg (by have := (nI_leI (by omega) (by omega)).mp c124; omega)]
                   rw [hbtt]; exact fPut_3 hno1 hno2)
              refine lv_aload_n hx hb dX11_place_148 rfl (hL.at 1 rfl) ?_
              refine lv_iload hx hb dX11_place_149 (hL.at 10 rfl) ?_
              refine k_dald hx hb hK hW (by first | with_reducible assumption | with_reducible exact up_s | (rw [up_n (by omega)]; first | with_reducible assumption | with_reducible exact up_s | (rw [up_n (by omega)]; first | with_reducible assumption | with_reducible exact up_s | (rw [up_n (by omega)]; first | with_reducible assumption | with_reducible exact up_s | (rw [up_n (by omega)]; first | with_reducible assumption | with_reducible exact up_s | (rw [up_n (by omega)]; first | with_reducible assumption | with_reducible exact up_s | (rw [up_n (by omega)]; first | with_reducible assumption | with_reducible exact up_s | (rw [up_n (by omega)]; first | with_reducible assumption | with_reducible exact up_s | (rw [up_n (by omega)]; first | with_reducible assumption | with_reducible exact up_s | (rw [up_n (by omega)]; first | with_reducible assumption | with_reducible exact up_s | (rw [up_n (by omega)]; first | with_reducible assumption | with_reducible exact up_s | (rw [up_n (by omega)]; first | with_reducible assumption | with_reducible exact up_s)))))))))))) u (by omega) (by omega) rfl dX11_place_151 ?_
              refine lv_aload_n hx hb dX11_place_152 rfl (hL.at 3 rfl) ?_
              refine k_getN (ci := 10) (C := RX8) (T := TX8) (N := 6) hx hb hts w_RX8 hown hK hW (by first | with_reducible assumption | with_reducible exact up_s | (rw [up_n (by omega)]; first | with_reducible assumption | with_reducible exact up_s | (rw [up_n (by omega)]; first | with_reducible assumption | with_reducible exact up_s | (rw [up_n (by omega)]; first | with_reducible assumption | with_reducible exact up_s | (rw [up_n (by omega)]; first | with_reducible assumption | with_reducible exact up_s | (rw [up_n (by omega)]; first | with_reducible assumption | with_reducible exact up_s | (rw [up_n (by omega)]; first | with_reducible assumption | with_reducible exact up_s | (rw [up_n (by omega)]; first | with_reducible assumption | with_reducible exact up_s | (rw [up_n (by omega)]; first | with_reducible assumption | with_reducible exact up_s | (rw [up_n (by omega)]; first | with_reducible assumption | with_reducible exact up_s | (rw [up_n (by omega)]; first | with_reducible assumption | with_reducible exact up_s | (rw [up_n (by omega)]; first | with_reducible assumption | with_reducible exact up_s)))))))))))) rfl 0 (by decide) (hq _ q937 rfl) (fun _ h9 => h9) (by rfl) dX11_place_153 ?_
              refine lv_dcmp hx hb dX11_place_156 ?_
              refine lv_if_le (tgt := 164) hx hb dX11_place_157 (by decide) (fun c157 => ?_) (fun c157 => ?_)
              · rw [cl_le] at c157
                have hnew1 := fNew_some (sp := cl.2.2.2.1) (st := s1) (height := (g.2.2 u)) c157
                obtain ⟨rm, hrm⟩ : ∃ z, z = (g.2.1 u) := ⟨_, rfl⟩
                obtain ⟨hgt, hhg⟩ : ∃ z, z = (g.2.2 u) := ⟨_, rfl⟩
                obtain ⟨tt, htt⟩ : ∃ z : Nat, z = 0 := ⟨_, rfl⟩
                have hokN : okNew cl.1 cl.2.2.2.1 s1 rm hgt := by rw [hrm, hhg]; exact hokp.2.2.2.1
                have hdh : dW hgt := by rw [hhg]; exact ht
                have hput : fPut cl.1 cl.2.2.2.1 bt s1 (g.2.1 u) (g.2.2 u) = some (s1.1 + 1, s1.2.1 + tt, FP.dadd s1.2.2.1 (fRaise cl.2.2.2.1 hgt), vf_upd s1.2.2.2.1 s1.1 (fRaise cl.2.2.2.1 hgt), vf_upd s1.2.2.2.2 s1.1 (FP.dsub cl.1 rm)) := by
                  rw [hnput, hrm, hhg, htt]
                  exact fPutN_1 hnew1
                refine lv_iconst (v := 0) hx hb dX11_place_164 (by decide) ?_
                refine k_ist hx hb hL (i := 12) (by decide) dX11_place_165 (fun ls hL => ?_)
                replace hL := hL.nrm (l' := [some _, some _, some _, some _, some _, some _, some _, some _, some _, none, some _, some _, some _, none, none]) rfl
                refine lv_iload hx hb dX11_place_167 (hL.at 12 rfl) ?_
                refine lv_if_eq (tgt := 197) hx hb dX11_place_169 (by decide) (fun c169 => ?_) (fun c169 => ?_)
                · try dsimp only at c169
                  refine lv_iload hx hb dX11_place_197 (hL.at 12 rfl) ?_
                  refine lv_if_eq (tgt := 209) hx hb dX11_place_199 (by decide) (fun c199 => ?_) (fun c199 => ?_)
                  · try dsimp only at c199
                    refine lv_aload_n hx hb dX11_place_209 rfl (hL.at 2 rfl) ?_
                    refine lv_iload hx hb dX11_place_210 (hL.at 10 rfl) ?_
                    refine k_dald hx hb hK hW (by first | with_reducible assumption | with_reducible exact up_s | (rw [up_n (by omega)]; first | with_reducible assumption | with_reducible exact up_s | (rw [up_n (by omega)]; first | with_reducible assumption | with_reducible exact up_s | (rw [up_n (by omega)]; first | with_reducible assumption | with_reducible exact up_s | (rw [up_n (by omega)]; first | with_reducible assumption | with_reducible exact up_s | (rw [up_n (by omega)]; first | with_reducible assumption | with_reducible exact up_s | (rw [up_n (by omega)]; first | with_reducible assumption | with_reducible exact up_s | (rw [up_n (by omega)]; first | with_reducible assumption | with_reducible exact up_s | (rw [up_n (by omega)]; first | with_reducible assumption | with_reducible exact up_s | (rw [up_n (by omega)]; first | with_reducible assumption | with_reducible exact up_s | (rw [up_n (by omega)]; first | with_reducible assumption | with_reducible exact up_s | (rw [up_n (by omega)]; first | with_reducible assumption | with_reducible exact up_s)))))))))))) u (by omega) (by omega) rfl dX11_place_212 ?_
                    refine lv_topd (fun y hy => ?_)
                    have hy2 : y = hgt := hy.trans hhg.symm
                    rw [hy2]
                    clear hy2 hy
                    refine k_dst hx hb hL (i := 13) (by decide) dX11_place_213 (fun ls hL => ?_)
                    replace hL := hL.nrm (l' := [some _, some _, some _, some _, some _, some _, some _, some _, some _, none, some _, some _, some _, some _, none]) rfl
                    refine lv_aload hx hb dX11_place_215 (hL.at 4 rfl) ?_
                    refine lv_iload hx hb dX11_place_217 (hL.at 6 rfl) ?_
                    refine lv_aload_n hx hb dX11_place_219 rfl (hL.at 3 rfl) ?_
                    refine k_getN (ci := 10) (C := RX8) (T := TX8) (N := 6) hx hb hts w_RX8 hown hK hW (by first | with_reducible assumption | with_reducible exact up_s | (rw [up_n (by omega)]; first | with_reducible assumption | with_reducible exact up_s | (rw [up_n (by omega)]; first | with_reducible assumption | with_reducible exact up_s | (rw [up_n (by omega)]; first | with_reducible assumption | with_reducible exact up_s | (rw [up_n (by omega)]; first | with_reducible assumption | with_reducible exact up_s | (rw [up_n (by omega)]; first | with_reducible assumption | with_reducible exact up_s | (rw [up_n (by omega)]; first | with_reducible assumption | with_reducible exact up_s | (rw [up_n (by omega)]; first | with_reducible assumption | with_reducible exact up_s | (rw [up_n (by omega)]; first | with_reducible assumption | with_reducible exact up_s | (rw [up_n (by omega)]; first | with_reducible assumption | with_reducible exact up_s | (rw [up_n (by omega)]; first | with_reducible assumption | with_reducible exact up_s | (rw [up_n (by omega)]; first | with_reducible assumption | with_reducible exact up_s)))))))))))) rfl 3 (by decide) (hq _ q941 rfl) (fun _ h9 => h9) (by rfl) dX11_place_220 ?_
                    refine lv_if_le (tgt := 246) hx hb dX11_place_223 (by decide) (fun c223 => ?_) (fun c223 => ?_)
                    · try dsimp only at c223
                      have hz : ¬ 0 < cl.2.2.2.1 := nI_le0 c223 (by omega)
                      refine lv_dload hx hb dX11_place_246 (hL.at 13 rfl) ?_
                      refine lv_topd (fun y hy => ?_)
                      have hy2 : y = fRaise cl.2.2.2.1 hgt := hy.trans (fRaise_zero hz)
                      rw [hy2]
                      clear hy2 hy
                      refine k_dast hx hb hK hW hS (by first | with_reducible assumption | with_reducible exact up_s | (rw [up_n (by omega)]; first | with_reducible assumption | with_reducible exact up_s | (rw [up_n (by omega)]; first | with_reducible assumption | with_reducible exact up_s | (rw [up_n (by omega)]; first | with_reducible assumption | with_reducible exact up_s | (rw [up_n (by omega)]; first | with_reducible assumption | with_reducible exact up_s | (rw [up_n (by omega)]; first | with_reducible assumption | with_reducible exact up_s | (rw [up_n (by omega)]; first | with_reducible assumption | with_reducible exact up_s | (rw [up_n (by omega)]; first | with_reducible assumption | with_reducible exact up_s | (rw [up_n (by omega)]; first | with_reducible assumption | with_reducible exact up_s | (rw [up_n (by omega)]; first | with_reducible assumption | with_reducible exact up_s | (rw [up_n (by omega)]; first | with_reducible assumption | with_reducible exact up_s | (rw [up_n (by omega)]; first | with_reducible assumption | with_reducible exact up_s)))))))))))) (by omega) s1.1 (by omega) (by omega) rfl dX11_place_248 (fun H locs hW hS => ?_)
                      refine lv_aload hx hb dX11_place_249 (hL.at 5 rfl) ?_
                      refine lv_iload hx hb dX11_place_251 (hL.at 6 rfl) ?_
                      refine lv_aload_n hx hb dX11_place_253 rfl (hL.at 3 rfl) ?_
                      refine k_getN (ci := 10) (C := RX8) (T := TX8) (N := 6) hx hb hts w_RX8 hown hK hW (by first | with_reducible assumption | with_reducible exact up_s | (rw [up_n (by omega)]; first | with_reducible assumption | with_reducible exact up_s | (rw [up_n (by omega)]; first | with_reducible assumption | with_reducible exact up_s | (rw [up_n (by omega)]; first | with_reducible assumption | with_reducible exact up_s | (rw [up_n (by omega)]; first | with_reducible assumption | with_reducible exact up_s | (rw [up_n (by omega)]; first | with_reducible assumption | with_reducible exact up_s | (rw [up_n (by omega)]; first | with_reducible assumption | with_reducible exact up_s | (rw [up_n (by omega)]; first | with_reducible assumption | with_reducible exact up_s | (rw [up_n (by omega)]; first | with_reducible assumption | with_reducible exact up_s | (rw [up_n (by omega)]; first | with_reducible assumption | with_reducible exact up_s | (rw [up_n (by omega)]; first | with_reducible assumption | with_reducible exact up_s | (rw [up_n (by omega)]; first | with_reducible assumption | with_reducible exact up_s)))))))))))) rfl 0 (by decide) (hq _ q937 rfl) (fun _ h9 => h9) (by rfl) dX11_place_254 ?_
                      refine lv_iload hx hb dX11_place_257 (hL.at 12 rfl) ?_
                      refine lv_if_eq (tgt := 269) hx hb dX11_place_259 (by decide) (fun c259 => ?_) (fun c259 => ?_)
                      · try dsimp only at c259
                        refine lv_aload_n hx hb dX11_place_269 rfl (hL.at 1 rfl) ?_
                        refine lv_iload hx hb dX11_place_270 (hL.at 10 rfl) ?_
                        refine k_dald hx hb hK hW (by first | with_reducible assumption | with_reducible exact up_s | (rw [up_n (by omega)]; first | with_reducible assumption | with_reducible exact up_s | (rw [up_n (by omega)]; first | with_reducible assumption | with_reducible exact up_s | (rw [up_n (by omega)]; first | with_reducible assumption | with_reducible exact up_s | (rw [up_n (by omega)]; first | with_reducible assumption | with_reducible exact up_s | (rw [up_n (by omega)]; first | with_reducible assumption | with_reducible exact up_s | (rw [up_n (by omega)]; first | with_reducible assumption | with_reducible exact up_s | (rw [up_n (by omega)]; first | with_reducible assumption | with_reducible exact up_s | (rw [up_n (by omega)]; first | with_reducible assumption | with_reducible exact up_s | (rw [up_n (by omega)]; first | with_reducible assumption | with_reducible exact up_s | (rw [up_n (by omega)]; first | with_reducible assumption | with_reducible exact up_s | (rw [up_n (by omega)]; first | with_reducible assumption | with_reducible exact up_s)))))))))))) u (by omega) (by omega) rfl dX11_place_272 ?_
                        refine lv_topd (fun y hy => ?_)
                        have hy2 : y = rm := hy.trans hrm.symm
                        rw [hy2]
                        clear hy2 hy
                        refine lv_dsub hx hb dX11_place_273 hokN.2.1 ?_
                        refine k_dast hx hb hK hW hS (by first | with_reducible assumption | with_reducible exact up_s | (rw [up_n (by omega)]; first | with_reducible assumption | with_reducible exact up_s | (rw [up_n (by omega)]; first | with_reducible assumption | with_reducible exact up_s | (rw [up_n (by omega)]; first | with_reducible assumption | with_reducible exact up_s | (rw [up_n (by omega)]; first | with_reducible assumption | with_reducible exact up_s | (rw [up_n (by omega)]; first | with_reducible assumption | with_reducible exact up_s | (rw [up_n (by omega)]; first | with_reducible assumption | with_reducible exact up_s | (rw [up_n (by omega)]; first | with_reducible assumption | with_reducible exact up_s | (rw [up_n (by omega)]; first | with_reducible assumption | with_reducible exact up_s | (rw [up_n (by omega)]; first | with_reducible assumption | with_reducible exact up_s | (rw [up_n (by omega)]; first | with_reducible assumption | with_reducible exact up_s | (rw [up_n (by omega)]; first | with_reducible assumption | with_reducible exact up_s)))))))))))) (by omega) s1.1 (by omega) (by omega) rfl dX11_place_274 (fun H locs hW hS => ?_)
                        refine k_iinc hx hb hL (i := 6) rfl (by decide) dX11_place_275 (fun ls hL => ?_)
                        replace hL := hL.nrm (l' := [some _, some _, some _, some _, some _, some _, some _, some _, some _, none, some _, some _, some _, some _, none]) rfl
                        rw [show nI s1.1 + Int32.ofInt 1 = nI (s1.1 + 1) from nI_1 _] at hL
                        refine lv_iload hx hb dX11_place_278 (hL.at 7 rfl) ?_
                        refine lv_iload hx hb dX11_place_280 (hL.at 12 rfl) ?_
                        refine lv_if_eq (tgt := 289) hx hb dX11_place_282 (by decide) (fun c282 => ?_) (fun c282 => ?_)
                        · try dsimp only at c282
                          refine lv_iconst (v := 0) hx hb dX11_place_289 (by decide) ?_
                          refine lv_topi (fun y hy => ?_)
                          have hy2 : y = nI tt := by rw [htt]; exact hy
                          subst hy2
                          refine lv_iadd hx hb dX11_place_290 ?_
                          rw [nI_add]
                          refine k_ist hx hb hL (i := 7) (by decide) dX11_place_291 (fun ls hL => ?_)
                          replace hL := hL.nrm (l' := [some _, some _, some _, some _, some _, some _, some _, some _, some _, none, some _, some _, some _, some _, none]) rfl
                          refine k_iinc hx hb hL (i := 10) rfl (by decide) dX11_place_293 (fun ls hL => ?_)
                          replace hL := hL.nrm (l' := [some _, some _, some _, some _, some _, some _, some _, some _, some _, none, some _, some _, some _, some _, none]) rfl
                          rw [show nI u + Int32.ofInt 1 = nI (u + 1) from nI_1 _] at hL
                          refine lv_goto (tgt := 24) hx hb dX11_place_296 (by decide) ?_
                          exact ih24 (u + 1) _ _ _ (by omega) (by omega) (by rw [← hl, fLay_go hput, show g.1 - (u + 1) = d by omega]) (by rw [show g.1 - (u + 1) = d by omega]; exact hnext _ hput) (okS_put hwd hsp hw ht hS1 (by omega) hput).1 (okH_put hsp hw ht hH1 hput) (by first | exact up_s | exact hc214 | exact hc215 | (rw [up_n (by omega)]; first | exact up_s | exact hc214 | exact hc215 | (rw [up_n (by omega)]; first | exact up_s | exact hc214 | exact hc215))) (by first | exact up_s | exact hc214 | exact hc215 | (rw [up_n (by omega)]; first | exact up_s | exact hc214 | exact hc215 | (rw [up_n (by omega)]; first | exact up_s | exact hc214 | exact hc215))) (fun j a b => by first | exact (up_n (by omega)).trans (hrk j a b) | exact (up_n (by omega)).trans ((up_n (by omega)).trans (hrk j a b))) (by first | exact (up_n (by omega)).trans h211 | exact (up_n (by omega)).trans ((up_n (by omega)).trans h211)) _ _ _ hW hS (hL.le (by repeat (first | exact kle_nil | refine kle_same ?_ | refine kle_drop ?_)))
                        · try dsimp only at c282
                          exact absurd c282 (by decide)
                      · try dsimp only at c259
                        exact absurd c259 (by decide)
                    · try dsimp only at c223
                      have hz : 0 < cl.2.2.2.1 := nI_gt0 c223
                      refine lv_dload hx hb dX11_place_226 (hL.at 13 rfl) ?_
                      refine lv_aload_n hx hb dX11_place_228 rfl (hL.at 3 rfl) ?_
                      refine k_getN (ci := 10) (C := RX8) (T := TX8) (N := 6) hx hb hts w_RX8 hown hK hW (by first | with_reducible assumption | with_reducible exact up_s | (rw [up_n (by omega)]; first | with_reducible assumption | with_reducible exact up_s | (rw [up_n (by omega)]; first | with_reducible assumption | with_reducible exact up_s | (rw [up_n (by omega)]; first | with_reducible assumption | with_reducible exact up_s | (rw [up_n (by omega)]; first | with_reducible assumption | with_reducible exact up_s | (rw [up_n (by omega)]; first | with_reducible assumption | with_reducible exact up_s | (rw [up_n (by omega)]; first | with_reducible assumption | with_reducible exact up_s | (rw [up_n (by omega)]; first | with_reducible assumption | with_reducible exact up_s | (rw [up_n (by omega)]; first | with_reducible assumption | with_reducible exact up_s | (rw [up_n (by omega)]; first | with_reducible assumption | with_reducible exact up_s | (rw [up_n (by omega)]; first | with_reducible assumption | with_reducible exact up_s | (rw [up_n (by omega)]; first | with_reducible assumption | with_reducible exact up_s)))))))))))) rfl 3 (by decide) (hq _ q941 rfl) (fun _ h9 => h9) (by rfl) dX11_place_229 ?_
                      refine lv_i2d hx hb dX11_place_232 ?_
                      refine lv_ddiv hx hb dX11_place_233 (hokN.1 hz).1 ?_
                      refine k_ceil G hx hb (hml.trans hL.1.symm) hown hts hq hI hS (hq _ q1234 rfl) (dP_rdiv hz hsp hdh) (Nat.lt_of_le_of_lt (Nat.succ_le_succ (Nat.div_le_self _ _)) (by decide)) (by decide) (by first | decide | exact Nat.le_of_ble_eq_true rfl) dX11_place_234 ?_
                      refine lv_aload_n hx hb dX11_place_237 rfl (hL.at 3 rfl) ?_
                      refine k_getN (ci := 10) (C := RX8) (T := TX8) (N := 6) hx hb hts w_RX8 hown hK hW (by first | with_reducible assumption | with_reducible exact up_s | (rw [up_n (by omega)]; first | with_reducible assumption | with_reducible exact up_s | (rw [up_n (by omega)]; first | with_reducible assumption | with_reducible exact up_s | (rw [up_n (by omega)]; first | with_reducible assumption | with_reducible exact up_s | (rw [up_n (by omega)]; first | with_reducible assumption | with_reducible exact up_s | (rw [up_n (by omega)]; first | with_reducible assumption | with_reducible exact up_s | (rw [up_n (by omega)]; first | with_reducible assumption | with_reducible exact up_s | (rw [up_n (by omega)]; first | with_reducible assumption | with_reducible exact up_s | (rw [up_n (by omega)]; first | with_reducible assumption | with_reducible exact up_s | (rw [up_n (by omega)]; first | with_reducible assumption | with_reducible exact up_s | (rw [up_n (by omega)]; first | with_reducible assumption | with_reducible exact up_s | (rw [up_n (by omega)]; first | with_reducible assumption | with_reducible exact up_s)))))))))))) rfl 3 (by decide) (hq _ q941 rfl) (fun _ h9 => h9) (by rfl) dX11_place_238 ?_
                      refine lv_i2d hx hb dX11_place_241 ?_
                      refine lv_dmul hx hb dX11_place_242 (hokN.1 hz).2 ?_
                      refine lv_topd (fun y hy => ?_)
                      have hy2 : y = fRaise cl.2.2.2.1 hgt := hy.trans (fRaise_pos hz)
                      rw [hy2]
                      clear hy2 hy
                      refine lv_goto (tgt := 248) hx hb dX11_place_243 (by decide) ?_
                      refine k_dast hx hb hK hW hS (by first | with_reducible assumption | with_reducible exact up_s | (rw [up_n (by omega)]; first | with_reducible assumption | with_reducible exact up_s | (rw [up_n (by omega)]; first | with_reducible assumption | with_reducible exact up_s | (rw [up_n (by omega)]; first | with_reducible assumption | with_reducible exact up_s | (rw [up_n (by omega)]; first | with_reducible assumption | with_reducible exact up_s | (rw [up_n (by omega)]; first | with_reducible assumption | with_reducible exact up_s | (rw [up_n (by omega)]; first | with_reducible assumption | with_reducible exact up_s | (rw [up_n (by omega)]; first | with_reducible assumption | with_reducible exact up_s | (rw [up_n (by omega)]; first | with_reducible assumption | with_reducible exact up_s | (rw [up_n (by omega)]; first | with_reducible assumption | with_reducible exact up_s | (rw [up_n (by omega)]; first | with_reducible assumption | with_reducible exact up_s | (rw [up_n (by omega)]; first | with_reducible assumption | with_reducible exact up_s)))))))))))) (by omega) s1.1 (by omega) (by omega) rfl dX11_place_248 (fun H locs hW hS => ?_)
                      refine lv_aload hx hb dX11_place_249 (hL.at 5 rfl) ?_
                      refine lv_iload hx hb dX11_place_251 (hL.at 6 rfl) ?_
                      refine lv_aload_n hx hb dX11_place_253 rfl (hL.at 3 rfl) ?_
                      refine k_getN (ci := 10) (C := RX8) (T := TX8) (N := 6) hx hb hts w_RX8 hown hK hW (by first | with_reducible assumption | with_reducible exact up_s | (rw [up_n (by omega)]; first | with_reducible assumption | with_reducible exact up_s | (rw [up_n (by omega)]; first | with_reducible assumption | with_reducible exact up_s | (rw [up_n (by omega)]; first | with_reducible assumption | with_reducible exact up_s | (rw [up_n (by omega)]; first | with_reducible assumption | with_reducible exact up_s | (rw [up_n (by omega)]; first | with_reducible assumption | with_reducible exact up_s | (rw [up_n (by omega)]; first | with_reducible assumption | with_reducible exact up_s | (rw [up_n (by omega)]; first | with_reducible assumption | with_reducible exact up_s | (rw [up_n (by omega)]; first | with_reducible assumption | with_reducible exact up_s | (rw [up_n (by omega)]; first | with_reducible assumption | with_reducible exact up_s | (rw [up_n (by omega)]; first | with_reducible assumption | with_reducible exact up_s | (rw [up_n (by omega)]; first | with_reducible assumption | with_reducible exact up_s)))))))))))) rfl 0 (by decide) (hq _ q937 rfl) (fun _ h9 => h9) (by rfl) dX11_place_254 ?_
                      refine lv_iload hx hb dX11_place_257 (hL.at 12 rfl) ?_
                      refine lv_if_eq (tgt := 269) hx hb dX11_place_259 (by decide) (fun c259 => ?_) (fun c259 => ?_)
                      · try dsimp only at c259
                        refine lv_aload_n hx hb dX11_place_269 rfl (hL.at 1 rfl) ?_
                        refine lv_iload hx hb dX11_place_270 (hL.at 10 rfl) ?_
                        refine k_dald hx hb hK hW (by first | with_reducible assumption | with_reducible exact up_s | (rw [up_n (by omega)]; first | with_reducible assumption | with_reducible exact up_s | (rw [up_n (by omega)]; first | with_reducible assumption | with_reducible exact up_s | (rw [up_n (by omega)]; first | with_reducible assumption | with_reducible exact up_s | (rw [up_n (by omega)]; first | with_reducible assumption | with_reducible exact up_s | (rw [up_n (by omega)]; first | with_reducible assumption | with_reducible exact up_s | (rw [up_n (by omega)]; first | with_reducible assumption | with_reducible exact up_s | (rw [up_n (by omega)]; first | with_reducible assumption | with_reducible exact up_s | (rw [up_n (by omega)]; first | with_reducible assumption | with_reducible exact up_s | (rw [up_n (by omega)]; first | with_reducible assumption | with_reducible exact up_s | (rw [up_n (by omega)]; first | with_reducible assumption | with_reducible exact up_s | (rw [up_n (by omega)]; first | with_reducible assumption | with_reducible exact up_s)))))))))))) u (by omega) (by omega) rfl dX11_place_272 ?_
                        refine lv_topd (fun y hy => ?_)
                        have hy2 : y = rm := hy.trans hrm.symm
                        rw [hy2]
                        clear hy2 hy
                        refine lv_dsub hx hb dX11_place_273 hokN.2.1 ?_
                        refine k_dast hx hb hK hW hS (by first | with_reducible assumption | with_reducible exact up_s | (rw [up_n (by omega)]; first | with_reducible assumption | with_reducible exact up_s | (rw [up_n (by omega)]; first | with_reducible assumption | with_reducible exact up_s | (rw [up_n (by omega)]; first | with_reducible assumption | with_reducible exact up_s | (rw [up_n (by omega)]; first | with_reducible assumption | with_reducible exact up_s | (rw [up_n (by omega)]; first | with_reducible assumption | with_reducible exact up_s | (rw [up_n (by omega)]; first | with_reducible assumption | with_reducible exact up_s | (rw [up_n (by omega)]; first | with_reducible assumption | with_reducible exact up_s | (rw [up_n (by omega)]; first | with_reducible assumption | with_reducible exact up_s | (rw [up_n (by omega)]; first | with_reducible assumption | with_reducible exact up_s | (rw [up_n (by omega)]; first | with_reducible assumption | with_reducible exact up_s | (rw [up_n (by omega)]; first | with_reducible assumption | with_reducible exact up_s)))))))))))) (by omega) s1.1 (by omega) (by omega) rfl dX11_place_274 (fun H locs hW hS => ?_)
                        refine k_iinc hx hb hL (i := 6) rfl (by decide) dX11_place_275 (fun ls hL => ?_)
                        replace hL := hL.nrm (l' := [some _, some _, some _, some _, some _, some _, some _, some _, some _, none, some _, some _, some _, some _, none]) rfl
                        rw [show nI s1.1 + Int32.ofInt 1 = nI (s1.1 + 1) from nI_1 _] at hL
                        refine lv_iload hx hb dX11_place_278 (hL.at 7 rfl) ?_
                        refine lv_iload hx hb dX11_place_280 (hL.at 12 rfl) ?_
                        refine lv_if_eq (tgt := 289) hx hb dX11_place_282 (by decide) (fun c282 => ?_) (fun c282 => ?_)
                        · try dsimp only at c282
                          refine lv_iconst (v := 0) hx hb dX11_place_289 (by decide) ?_
                          refine lv_topi (fun y hy => ?_)
                          have hy2 : y = nI tt := by rw [htt]; exact hy
                          subst hy2
                          refine lv_iadd hx hb dX11_place_290 ?_
                          rw [nI_add]
                          refine k_ist hx hb hL (i := 7) (by decide) dX11_place_291 (fun ls hL => ?_)
                          replace hL := hL.nrm (l' := [some _, some _, some _, some _, some _, some _, some _, some _, some _, none, some _, some _, some _, some _, none]) rfl
                          refine k_iinc hx hb hL (i := 10) rfl (by decide) dX11_place_293 (fun ls hL => ?_)
                          replace hL := hL.nrm (l' := [some _, some _, some _, some _, some _, some _, some _, some _, some _, none, some _, some _, some _, some _, none]) rfl
                          rw [show nI u + Int32.ofInt 1 = nI (u + 1) from nI_1 _] at hL
                          refine lv_goto (tgt := 24) hx hb dX11_place_296 (by decide) ?_
                          exact ih24 (u + 1) _ _ _ (by omega) (by omega) (by rw [← hl, fLay_go hput, show g.1 - (u + 1) = d by omega]) (by rw [show g.1 - (u + 1) = d by omega]; exact hnext _ hput) (okS_put hwd hsp hw ht hS1 (by omega) hput).1 (okH_put hsp hw ht hH1 hput) (by first | exact up_s | exact hc214 | exact hc215 | (rw [up_n (by omega)]; first | exact up_s | exact hc214 | exact hc215 | (rw [up_n (by omega)]; first | exact up_s | exact hc214 | exact hc215))) (by first | exact up_s | exact hc214 | exact hc215 | (rw [up_n (by omega)]; first | exact up_s | exact hc214 | exact hc215 | (rw [up_n (by omega)]; first | exact up_s | exact hc214 | exact hc215))) (fun j a b => by first | exact (up_n (by omega)).trans (hrk j a b) | exact (up_n (by omega)).trans ((up_n (by omega)).trans (hrk j a b))) (by first | exact (up_n (by omega)).trans h211 | exact (up_n (by omega)).trans ((up_n (by omega)).trans h211)) _ _ _ hW hS (hL.le (by repeat (first | exact kle_nil | refine kle_same ?_ | refine kle_drop ?_)))
                        · try dsimp only at c282
                          exact absurd c282 (by decide)
                      · try dsimp only at c259
                        exact absurd c259 (by decide)
                  · try dsimp only at c199
                    exact absurd c199 (by decide)
                · try dsimp only at c169
                  exact absurd c169 (by decide)
              · rw [cl_le] at c157
                have hnew1 := fNew_none (sp := cl.2.2.2.1) (st := s1) (height := (g.2.2 u)) (show FP.dcmp (g.2.1 u) cl.1 = some .gt by first | exact c157 | exact Decidable.not_not.mp c157)
                refine lv_iconst (v := 1) hx hb dX11_place_160 (by decide) ?_
                refine lv_goto (tgt := 165) hx hb dX11_place_161 (by decide) ?_
                refine k_ist hx hb hL (i := 12) (by decide) dX11_place_165 (fun ls hL => ?_)
                replace hL := hL.nrm (l' := [some _, some _, some _, some _, some _, some _, some _, some _, some _, none, some _, some _, some _, none, none]) rfl
                refine lv_iload hx hb dX11_place_167 (hL.at 12 rfl) ?_
                refine lv_if_eq (tgt := 197) hx hb dX11_place_169 (by decide) (fun c169 => ?_) (fun c169 => ?_)
                · try dsimp only at c169
                  exact absurd c169 (by decide)
                · try dsimp only at c169
                  refine lv_aload_n hx hb dX11_place_172 rfl (hL.at 3 rfl) ?_
                  refine k_getN (ci := 10) (C := RX8) (T := TX8) (N := 6) hx hb hts w_RX8 hown hK hW (by first | with_reducible assumption | with_reducible exact up_s | (rw [up_n (by omega)]; first | with_reducible assumption | with_reducible exact up_s | (rw [up_n (by omega)]; first | with_reducible assumption | with_reducible exact up_s | (rw [up_n (by omega)]; first | with_reducible assumption | with_reducible exact up_s | (rw [up_n (by omega)]; first | with_reducible assumption | with_reducible exact up_s | (rw [up_n (by omega)]; first | with_reducible assumption | with_reducible exact up_s | (rw [up_n (by omega)]; first | with_reducible assumption | with_reducible exact up_s | (rw [up_n (by omega)]; first | with_reducible assumption | with_reducible exact up_s | (rw [up_n (by omega)]; first | with_reducible assumption | with_reducible exact up_s | (rw [up_n (by omega)]; first | with_reducible assumption | with_reducible exact up_s | (rw [up_n (by omega)]; first | with_reducible assumption | with_reducible exact up_s | (rw [up_n (by omega)]; first | with_reducible assumption | with_reducible exact up_s)))))))))))) rfl 4 (by decide) (hq _ q942 rfl) (fun _ h9 => h9) (by rfl) dX11_place_173 ?_
                  refine lv_if_ne (tgt := 191) hx hb dX11_place_176 (by decide) (fun c176 => ?_) (fun c176 => ?_)
                  · try dsimp only at c176
                    first | exact absurd hnp0 c176 | exact absurd c176 hnp0 | exact c176 hnp0
                  · try dsimp only at c176
                    
                    refine lv_aload_n hx hb dX11_place_179 rfl (hL.at 2 rfl) ?_
                    refine lv_iload hx hb dX11_place_180 (hL.at 10 rfl) ?_
                    refine k_dald hx hb hK hW (by first | with_reducible assumption | with_reducible exact up_s | (rw [up_n (by omega)]; first | with_reducible assumption | with_reducible exact up_s | (rw [up_n (by omega)]; first | with_reducible assumption | with_reducible exact up_s | (rw [up_n (by omega)]; first | with_reducible assumption | with_reducible exact up_s | (rw [up_n (by omega)]; first | with_reducible assumption | with_reducible exact up_s | (rw [up_n (by omega)]; first | with_reducible assumption | with_reducible exact up_s | (rw [up_n (by omega)]; first | with_reducible assumption | with_reducible exact up_s | (rw [up_n (by omega)]; first | with_reducible assumption | with_reducible exact up_s | (rw [up_n (by omega)]; first | with_reducible assumption | with_reducible exact up_s | (rw [up_n (by omega)]; first | with_reducible assumption | with_reducible exact up_s | (rw [up_n (by omega)]; first | with_reducible assumption | with_reducible exact up_s | (rw [up_n (by omega)]; first | with_reducible assumption | with_reducible exact up_s)))))))))))) u (by omega) (by omega) rfl dX11_place_182 ?_
                    refine lv_aload_n hx hb dX11_place_183 rfl (hL.at 3 rfl) ?_
                    refine k_getN (ci := 10) (C := RX8) (T := TX8) (N := 6) hx hb hts w_RX8 hown hK hW (by first | with_reducible assumption | with_reducible exact up_s | (rw [up_n (by omega)]; first | with_reducible assumption | with_reducible exact up_s | (rw [up_n (by omega)]; first | with_reducible assumption | with_reducible exact up_s | (rw [up_n (by omega)]; first | with_reducible assumption | with_reducible exact up_s | (rw [up_n (by omega)]; first | with_reducible assumption | with_reducible exact up_s | (rw [up_n (by omega)]; first | with_reducible assumption | with_reducible exact up_s | (rw [up_n (by omega)]; first | with_reducible assumption | with_reducible exact up_s | (rw [up_n (by omega)]; first | with_reducible assumption | with_reducible exact up_s | (rw [up_n (by omega)]; first | with_reducible assumption | with_reducible exact up_s | (rw [up_n (by omega)]; first | with_reducible assumption | with_reducible exact up_s | (rw [up_n (by omega)]; first | with_reducible assumption | with_reducible exact up_s | (rw [up_n (by omega)]; first | with_reducible assumption | with_reducible exact up_s)))))))))))) rfl 0 (by decide) (hq _ q937 rfl) (fun _ h9 => h9) (by rfl) dX11_place_184 ?_
                    refine lv_dcmp hx hb dX11_place_187 ?_
                    refine lv_if_le (tgt := 197) hx hb dX11_place_188 (by decide) (fun c188 => ?_) (fun c188 => ?_)
                    · rw [cl_le] at c188
                      have hnew2 := fNew_some (sp := cl.2.2.2.1) (st := s1) (height := (g.2.1 u)) c188
                      obtain ⟨rm, hrm⟩ : ∃ z, z = (g.2.2 u) := ⟨_, rfl⟩
                      obtain ⟨hgt, hhg⟩ : ∃ z, z = (g.2.1 u) := ⟨_, rfl⟩
                      obtain ⟨tt, htt⟩ : ∃ z : Nat, z = 1 := ⟨_, rfl⟩
                      have hokN : okNew cl.1 cl.2.2.2.1 s1 rm hgt := by rw [hrm, hhg]; exact hokp.2.2.2.2
                      have hdh : dW hgt := by rw [hhg]; exact hw
                      have hput : fPut cl.1 cl.2.2.2.1 bt s1 (g.2.1 u) (g.2.2 u) = some (s1.1 + 1, s1.2.1 + tt, FP.dadd s1.2.2.1 (fRaise cl.2.2.2.1 hgt), vf_upd s1.2.2.2.1 s1.1 (fRaise cl.2.2.2.1 hgt), vf_upd s1.2.2.2.2 s1.1 (FP.dsub cl.1 rm)) := by
                        rw [hnput, hrm, hhg, htt, hbtt]
                        exact fPutN_2 hnew1 hnew2
                      refine lv_iload hx hb dX11_place_197 (hL.at 12 rfl) ?_
                      refine lv_if_eq (tgt := 209) hx hb dX11_place_199 (by decide) (fun c199 => ?_) (fun c199 => ?_)
                      · try dsimp only at c199
                        exact absurd c199 (by decide)
                      · try dsimp only at c199
                        refine lv_aload_n hx hb dX11_place_202 rfl (hL.at 1 rfl) ?_
                        refine lv_iload hx hb dX11_place_203 (hL.at 10 rfl) ?_
                        refine k_dald hx hb hK hW (by first | with_reducible assumption | with_reducible exact up_s | (rw [up_n (by omega)]; first | with_reducible assumption | with_reducible exact up_s | (rw [up_n (by omega)]; first | with_reducible assumption | with_reducible exact up_s | (rw [up_n (by omega)]; first | with_reducible assumption | with_reducible exact up_s | (rw [up_n (by omega)]; first | with_reducible assumption | with_reducible exact up_s | (rw [up_n (by omega)]; first | with_reducible assumption | with_reducible exact up_s | (rw [up_n (by omega)]; first | with_reducible assumption | with_reducible exact up_s | (rw [up_n (by omega)]; first | with_reducible assumption | with_reducible exact up_s | (rw [up_n (by omega)]; first | with_reducible assumption | with_reducible exact up_s | (rw [up_n (by omega)]; first | with_reducible assumption | with_reducible exact up_s | (rw [up_n (by omega)]; first | with_reducible assumption | with_reducible exact up_s | (rw [up_n (by omega)]; first | with_reducible assumption | with_reducible exact up_s)))))))))))) u (by omega) (by omega) rfl dX11_place_205 ?_
                        refine lv_topd (fun y hy => ?_)
                        have hy2 : y = hgt := hy.trans hhg.symm
                        rw [hy2]
                        clear hy2 hy
                        refine lv_goto (tgt := 213) hx hb dX11_place_206 (by decide) ?_
                        refine k_dst hx hb hL (i := 13) (by decide) dX11_place_213 (fun ls hL => ?_)
                        replace hL := hL.nrm (l' := [some _, some _, some _, some _, some _, some _, some _, some _, some _, none, some _, some _, some _, some _, none]) rfl
                        refine lv_aload hx hb dX11_place_215 (hL.at 4 rfl) ?_
                        refine lv_iload hx hb dX11_place_217 (hL.at 6 rfl) ?_
                        refine lv_aload_n hx hb dX11_place_219 rfl (hL.at 3 rfl) ?_
                        refine k_getN (ci := 10) (C := RX8) (T := TX8) (N := 6) hx hb hts w_RX8 hown hK hW (by first | with_reducible assumption | with_reducible exact up_s | (rw [up_n (by omega)]; first | with_reducible assumption | with_reducible exact up_s | (rw [up_n (by omega)]; first | with_reducible assumption | with_reducible exact up_s | (rw [up_n (by omega)]; first | with_reducible assumption | with_reducible exact up_s | (rw [up_n (by omega)]; first | with_reducible assumption | with_reducible exact up_s | (rw [up_n (by omega)]; first | with_reducible assumption | with_reducible exact up_s | (rw [up_n (by omega)]; first | with_reducible assumption | with_reducible exact up_s | (rw [up_n (by omega)]; first | with_reducible assumption | with_reducible exact up_s | (rw [up_n (by omega)]; first | with_reducible assumption | with_reducible exact up_s | (rw [up_n (by omega)]; first | with_reducible assumption | with_reducible exact up_s | (rw [up_n (by omega)]; first | with_reducible assumption | with_reducible exact up_s | (rw [up_n (by omega)]; first | with_reducible assumption | with_reducible exact up_s)))))))))))) rfl 3 (by decide) (hq _ q941 rfl) (fun _ h9 => h9) (by rfl) dX11_place_220 ?_
                        refine lv_if_le (tgt := 246) hx hb dX11_place_223 (by decide) (fun c223 => ?_) (fun c223 => ?_)
                        · try dsimp only at c223
                          have hz : ¬ 0 < cl.2.2.2.1 := nI_le0 c223 (by omega)
                          refine lv_dload hx hb dX11_place_246 (hL.at 13 rfl) ?_
                          refine lv_topd (fun y hy => ?_)
                          have hy2 : y = fRaise cl.2.2.2.1 hgt := hy.trans (fRaise_zero hz)
                          rw [hy2]
                          clear hy2 hy
                          refine k_dast hx hb hK hW hS (by first | with_reducible assumption | with_reducible exact up_s | (rw [up_n (by omega)]; first | with_reducible assumption | with_reducible exact up_s | (rw [up_n (by omega)]; first | with_reducible assumption | with_reducible exact up_s | (rw [up_n (by omega)]; first | with_reducible assumption | with_reducible exact up_s | (rw [up_n (by omega)]; first | with_reducible assumption | with_reducible exact up_s | (rw [up_n (by omega)]; first | with_reducible assumption | with_reducible exact up_s | (rw [up_n (by omega)]; first | with_reducible assumption | with_reducible exact up_s | (rw [up_n (by omega)]; first | with_reducible assumption | with_reducible exact up_s | (rw [up_n (by omega)]; first | with_reducible assumption | with_reducible exact up_s | (rw [up_n (by omega)]; first | with_reducible assumption | with_reducible exact up_s | (rw [up_n (by omega)]; first | with_reducible assumption | with_reducible exact up_s | (rw [up_n (by omega)]; first | with_reducible assumption | with_reducible exact up_s)))))))))))) (by omega) s1.1 (by omega) (by omega) rfl dX11_place_248 (fun H locs hW hS => ?_)
                          refine lv_aload hx hb dX11_place_249 (hL.at 5 rfl) ?_
                          refine lv_iload hx hb dX11_place_251 (hL.at 6 rfl) ?_
                          refine lv_aload_n hx hb dX11_place_253 rfl (hL.at 3 rfl) ?_
                          refine k_getN (ci := 10) (C := RX8) (T := TX8) (N := 6) hx hb hts w_RX8 hown hK hW (by first | with_reducible assumption | with_reducible exact up_s | (rw [up_n (by omega)]; first | with_reducible assumption | with_reducible exact up_s | (rw [up_n (by omega)]; first | with_reducible assumption | with_reducible exact up_s | (rw [up_n (by omega)]; first | with_reducible assumption | with_reducible exact up_s | (rw [up_n (by omega)]; first | with_reducible assumption | with_reducible exact up_s | (rw [up_n (by omega)]; first | with_reducible assumption | with_reducible exact up_s | (rw [up_n (by omega)]; first | with_reducible assumption | with_reducible exact up_s | (rw [up_n (by omega)]; first | with_reducible assumption | with_reducible exact up_s | (rw [up_n (by omega)]; first | with_reducible assumption | with_reducible exact up_s | (rw [up_n (by omega)]; first | with_reducible assumption | with_reducible exact up_s | (rw [up_n (by omega)]; first | with_reducible assumption | with_reducible exact up_s | (rw [up_n (by omega)]; first | with_reducible assumption | with_reducible exact up_s)))))))))))) rfl 0 (by decide) (hq _ q937 rfl) (fun _ h9 => h9) (by rfl) dX11_place_254 ?_
                          refine lv_iload hx hb dX11_place_257 (hL.at 12 rfl) ?_
                          refine lv_if_eq (tgt := 269) hx hb dX11_place_259 (by decide) (fun c259 => ?_) (fun c259 => ?_)
                          · try dsimp only at c259
                            exact absurd c259 (by decide)
                          · try dsimp only at c259
                            refine lv_aload_n hx hb dX11_place_262 rfl (hL.at 2 rfl) ?_
                            refine lv_iload hx hb dX11_place_263 (hL.at 10 rfl) ?_
                            refine k_dald hx hb hK hW (by first | with_reducible assumption | with_reducible exact up_s | (rw [up_n (by omega)]; first | with_reducible assumption | with_reducible exact up_s | (rw [up_n (by omega)]; first | with_reducible assumption | with_reducible exact up_s | (rw [up_n (by omega)]; first | with_reducible assumption | with_reducible exact up_s | (rw [up_n (by omega)]; first | with_reducible assumption | with_reducible exact up_s | (rw [up_n (by omega)]; first | with_reducible assumption | with_reducible exact up_s | (rw [up_n (by omega)]; first | with_reducible assumption | with_reducible exact up_s | (rw [up_n (by omega)]; first | with_reducible assumption | with_reducible exact up_s | (rw [up_n (by omega)]; first | with_reducible assumption | with_reducible exact up_s | (rw [up_n (by omega)]; first | with_reducible assumption | with_reducible exact up_s | (rw [up_n (by omega)]; first | with_reducible assumption | with_reducible exact up_s | (rw [up_n (by omega)]; first | with_reducible assumption | with_reducible exact up_s)))))))))))) u (by omega) (by omega) rfl dX11_place_265 ?_
                            refine lv_topd (fun y hy => ?_)
                            have hy2 : y = rm := hy.trans hrm.symm
                            rw [hy2]
                            clear hy2 hy
                            refine lv_goto (tgt := 273) hx hb dX11_place_266 (by decide) ?_
                            refine lv_dsub hx hb dX11_place_273 hokN.2.1 ?_
                            refine k_dast hx hb hK hW hS (by first | with_reducible assumption | with_reducible exact up_s | (rw [up_n (by omega)]; first | with_reducible assumption | with_reducible exact up_s | (rw [up_n (by omega)]; first | with_reducible assumption | with_reducible exact up_s | (rw [up_n (by omega)]; first | with_reducible assumption | with_reducible exact up_s | (rw [up_n (by omega)]; first | with_reducible assumption | with_reducible exact up_s | (rw [up_n (by omega)]; first | with_reducible assumption | with_reducible exact up_s | (rw [up_n (by omega)]; first | with_reducible assumption | with_reducible exact up_s | (rw [up_n (by omega)]; first | with_reducible assumption | with_reducible exact up_s | (rw [up_n (by omega)]; first | with_reducible assumption | with_reducible exact up_s | (rw [up_n (by omega)]; first | with_reducible assumption | with_reducible exact up_s | (rw [up_n (by omega)]; first | with_reducible assumption | with_reducible exact up_s | (rw [up_n (by omega)]; first | with_reducible assumption | with_reducible exact up_s)))))))))))) (by omega) s1.1 (by omega) (by omega) rfl dX11_place_274 (fun H locs hW hS => ?_)
                            refine k_iinc hx hb hL (i := 6) rfl (by decide) dX11_place_275 (fun ls hL => ?_)
                            replace hL := hL.nrm (l' := [some _, some _, some _, some _, some _, some _, some _, some _, some _, none, some _, some _, some _, some _, none]) rfl
                            rw [show nI s1.1 + Int32.ofInt 1 = nI (s1.1 + 1) from nI_1 _] at hL
                            refine lv_iload hx hb dX11_place_278 (hL.at 7 rfl) ?_
                            refine lv_iload hx hb dX11_place_280 (hL.at 12 rfl) ?_
                            refine lv_if_eq (tgt := 289) hx hb dX11_place_282 (by decide) (fun c282 => ?_) (fun c282 => ?_)
                            · try dsimp only at c282
                              exact absurd c282 (by decide)
                            · try dsimp only at c282
                              refine lv_iconst (v := 1) hx hb dX11_place_285 (by decide) ?_
                              refine lv_topi (fun y hy => ?_)
                              have hy2 : y = nI tt := by rw [htt]; exact hy
                              subst hy2
                              refine lv_goto (tgt := 290) hx hb dX11_place_286 (by decide) ?_
                              refine lv_iadd hx hb dX11_place_290 ?_
                              rw [nI_add]
                              refine k_ist hx hb hL (i := 7) (by decide) dX11_place_291 (fun ls hL => ?_)
                              replace hL := hL.nrm (l' := [some _, some _, some _, some _, some _, some _, some _, some _, some _, none, some _, some _, some _, some _, none]) rfl
                              refine k_iinc hx hb hL (i := 10) rfl (by decide) dX11_place_293 (fun ls hL => ?_)
                              replace hL := hL.nrm (l' := [some _, some _, some _, some _, some _, some _, some _, some _, some _, none, some _, some _, some _, some _, none]) rfl
                              rw [show nI u + Int32.ofInt 1 = nI (u + 1) from nI_1 _] at hL
                              refine lv_goto (tgt := 24) hx hb dX11_place_296 (by decide) ?_
                              exact ih24 (u + 1) _ _ _ (by omega) (by omega) (by rw [← hl, fLay_go hput, show g.1 - (u + 1) = d by omega]) (by rw [show g.1 - (u + 1) = d by omega]; exact hnext _ hput) (okS_put hwd hsp hw ht hS1 (by omega) hput).1 (okH_put hsp hw ht hH1 hput) (by first | exact up_s | exact hc214 | exact hc215 | (rw [up_n (by omega)]; first | exact up_s | exact hc214 | exact hc215 | (rw [up_n (by omega)]; first | exact up_s | exact hc214 | exact hc215))) (by first | exact up_s | exact hc214 | exact hc215 | (rw [up_n (by omega)]; first | exact up_s | exact hc214 | exact hc215 | (rw [up_n (by omega)]; first | exact up_s | exact hc214 | exact hc215))) (fun j a b => by first | exact (up_n (by omega)).trans (hrk j a b) | exact (up_n (by omega)).trans ((up_n (by omega)).trans (hrk j a b))) (by first | exact (up_n (by omega)).trans h211 | exact (up_n (by omega)).trans ((up_n (by omega)).trans h211)) _ _ _ hW hS (hL.le (by repeat (first | exact kle_nil | refine kle_same ?_ | refine kle_drop ?_)))
                        · try dsimp only at c223
                          have hz : 0 < cl.2.2.2.1 := nI_gt0 c223
                          refine lv_dload hx hb dX11_place_226 (hL.at 13 rfl) ?_
                          refine lv_aload_n hx hb dX11_place_228 rfl (hL.at 3 rfl) ?_
                          refine k_getN (ci := 10) (C := RX8) (T := TX8) (N := 6) hx hb hts w_RX8 hown hK hW (by first | with_reducible assumption | with_reducible exact up_s | (rw [up_n (by omega)]; first | with_reducible assumption | with_reducible exact up_s | (rw [up_n (by omega)]; first | with_reducible assumption | with_reducible exact up_s | (rw [up_n (by omega)]; first | with_reducible assumption | with_reducible exact up_s | (rw [up_n (by omega)]; first | with_reducible assumption | with_reducible exact up_s | (rw [up_n (by omega)]; first | with_reducible assumption | with_reducible exact up_s | (rw [up_n (by omega)]; first | with_reducible assumption | with_reducible exact up_s | (rw [up_n (by omega)]; first | with_reducible assumption | with_reducible exact up_s | (rw [up_n (by omega)]; first | with_reducible assumption | with_reducible exact up_s | (rw [up_n (by omega)]; first | with_reducible assumption | with_reducible exact up_s | (rw [up_n (by omega)]; first | with_reducible assumption | with_reducible exact up_s | (rw [up_n (by omega)]; first | with_reducible assumption | with_reducible exact up_s)))))))))))) rfl 3 (by decide) (hq _ q941 rfl) (fun _ h9 => h9) (by rfl) dX11_place_229 ?_
                          refine lv_i2d hx hb dX11_place_232 ?_
                          refine lv_ddiv hx hb dX11_place_233 (hokN.1 hz).1 ?_
                          refine k_ceil G hx hb (hml.trans hL.1.symm) hown hts hq hI hS (hq _ q1234 rfl) (dP_rdiv hz hsp hdh) (Nat.lt_of_le_of_lt (Nat.succ_le_succ (Nat.div_le_self _ _)) (by decide)) (by decide) (by first | decide | exact Nat.le_of_ble_eq_true rfl) dX11_place_234 ?_
                          refine lv_aload_n hx hb dX11_place_237 rfl (hL.at 3 rfl) ?_
                          refine k_getN (ci := 10) (C := RX8) (T := TX8) (N := 6) hx hb hts w_RX8 hown hK hW (by first | with_reducible assumption | with_reducible exact up_s | (rw [up_n (by omega)]; first | with_reducible assumption | with_reducible exact up_s | (rw [up_n (by omega)]; first | with_reducible assumption | with_reducible exact up_s | (rw [up_n (by omega)]; first | with_reducible assumption | with_reducible exact up_s | (rw [up_n (by omega)]; first | with_reducible assumption | with_reducible exact up_s | (rw [up_n (by omega)]; first | with_reducible assumption | with_reducible exact up_s | (rw [up_n (by omega)]; first | with_reducible assumption | with_reducible exact up_s | (rw [up_n (by omega)]; first | with_reducible assumption | with_reducible exact up_s | (rw [up_n (by omega)]; first | with_reducible assumption | with_reducible exact up_s | (rw [up_n (by omega)]; first | with_reducible assumption | with_reducible exact up_s | (rw [up_n (by omega)]; first | with_reducible assumption | with_reducible exact up_s | (rw [up_n (by omega)]; first | with_reducible assumption | with_reducible exact up_s)))))))))))) rfl 3 (by decide) (hq _ q941 rfl) (fun _ h9 => h9) (by rfl) dX11_place_238 ?_
                          refine lv_i2d hx hb dX11_place_241 ?_
                          refine lv_dmul hx hb dX11_place_242 (hokN.1 hz).2 ?_
                          refine lv_topd (fun y hy => ?_)
                          have hy2 : y = fRaise cl.2.2.2.1 hgt := hy.trans (fRaise_pos hz)
                          rw [hy2]
                          clear hy2 hy
                          refine lv_goto (tgt := 248) hx hb dX11_place_243 (by decide) ?_
                          refine k_dast hx hb hK hW hS (by first | with_reducible assumption | with_reducible exact up_s | (rw [up_n (by omega)]; first | with_reducible assumption | with_reducible exact up_s | (rw [up_n (by omega)]; first | with_reducible assumption | with_reducible exact up_s | (rw [up_n (by omega)]; first | with_reducible assumption | with_reducible exact up_s | (rw [up_n (by omega)]; first | with_reducible assumption | with_reducible exact up_s | (rw [up_n (by omega)]; first | with_reducible assumption | with_reducible exact up_s | (rw [up_n (by omega)]; first | with_reducible assumption | with_reducible exact up_s | (rw [up_n (by omega)]; first | with_reducible assumption | with_reducible exact up_s | (rw [up_n (by omega)]; first | with_reducible assumption | with_reducible exact up_s | (rw [up_n (by omega)]; first | with_reducible assumption | with_reducible exact up_s | (rw [up_n (by omega)]; first | with_reducible assumption | with_reducible exact up_s | (rw [up_n (by omega)]; first | with_reducible assumption | with_reducible exact up_s)))))))))))) (by omega) s1.1 (by omega) (by omega) rfl dX11_place_248 (fun H locs hW hS => ?_)
                          refine lv_aload hx hb dX11_place_249 (hL.at 5 rfl) ?_
                          refine lv_iload hx hb dX11_place_251 (hL.at 6 rfl) ?_
                          refine lv_aload_n hx hb dX11_place_253 rfl (hL.at 3 rfl) ?_
                          refine k_getN (ci := 10) (C := RX8) (T := TX8) (N := 6) hx hb hts w_RX8 hown hK hW (by first | with_reducible assumption | with_reducible exact up_s | (rw [up_n (by omega)]; first | with_reducible assumption | with_reducible exact up_s | (rw [up_n (by omega)]; first | with_reducible assumption | with_reducible exact up_s | (rw [up_n (by omega)]; first | with_reducible assumption | with_reducible exact up_s | (rw [up_n (by omega)]; first | with_reducible assumption | with_reducible exact up_s | (rw [up_n (by omega)]; first | with_reducible assumption | with_reducible exact up_s | (rw [up_n (by omega)]; first | with_reducible assumption | with_reducible exact up_s | (rw [up_n (by omega)]; first | with_reducible assumption | with_reducible exact up_s | (rw [up_n (by omega)]; first | with_reducible assumption | with_reducible exact up_s | (rw [up_n (by omega)]; first | with_reducible assumption | with_reducible exact up_s | (rw [up_n (by omega)]; first | with_reducible assumption | with_reducible exact up_s | (rw [up_n (by omega)]; first | with_reducible assumption | with_reducible exact up_s)))))))))))) rfl 0 (by decide) (hq _ q937 rfl) (fun _ h9 => h9) (by rfl) dX11_place_254 ?_
                          refine lv_iload hx hb dX11_place_257 (hL.at 12 rfl) ?_
                          refine lv_if_eq (tgt := 269) hx hb dX11_place_259 (by decide) (fun c259 => ?_) (fun c259 => ?_)
                          · try dsimp only at c259
                            exact absurd c259 (by decide)
                          · try dsimp only at c259
                            refine lv_aload_n hx hb dX11_place_262 rfl (hL.at 2 rfl) ?_
                            refine lv_iload hx hb dX11_place_263 (hL.at 10 rfl) ?_
                            refine k_dald hx hb hK hW (by first | with_reducible assumption | with_reducible exact up_s | (rw [up_n (by omega)]; first | with_reducible assumption | with_reducible exact up_s | (rw [up_n (by omega)]; first | with_reducible assumption | with_reducible exact up_s | (rw [up_n (by omega)]; first | with_reducible assumption | with_reducible exact up_s | (rw [up_n (by omega)]; first | with_reducible assumption | with_reducible exact up_s | (rw [up_n (by omega)]; first | with_reducible assumption | with_reducible exact up_s | (rw [up_n (by omega)]; first | with_reducible assumption | with_reducible exact up_s | (rw [up_n (by omega)]; first | with_reducible assumption | with_reducible exact up_s | (rw [up_n (by omega)]; first | with_reducible assumption | with_reducible exact up_s | (rw [up_n (by omega)]; first | with_reducible assumption | with_reducible exact up_s | (rw [up_n (by omega)]; first | with_reducible assumption | with_reducible exact up_s | (rw [up_n (by omega)]; first | with_reducible assumption | with_reducible exact up_s)))))))))))) u (by omega) (by omega) rfl dX11_place_265 ?_
                            refine lv_topd (fun y hy => ?_)
                            have hy2 : y = rm := hy.trans hrm.symm
                            rw [hy2]
                            clear hy2 hy
                            refine lv_goto (tgt := 273) hx hb dX11_place_266 (by decide) ?_
                            refine lv_dsub hx hb dX11_place_273 hokN.2.1 ?_
                            refine k_dast hx hb hK hW hS (by first | with_reducible assumption | with_reducible exact up_s | (rw [up_n (by omega)]; first | with_reducible assumption | with_reducible exact up_s | (rw [up_n (by omega)]; first | with_reducible assumption | with_reducible exact up_s | (rw [up_n (by omega)]; first | with_reducible assumption | with_reducible exact up_s | (rw [up_n (by omega)]; first | with_reducible assumption | with_reducible exact up_s | (rw [up_n (by omega)]; first | with_reducible assumption | with_reducible exact up_s | (rw [up_n (by omega)]; first | with_reducible assumption | with_reducible exact up_s | (rw [up_n (by omega)]; first | with_reducible assumption | with_reducible exact up_s | (rw [up_n (by omega)]; first | with_reducible assumption | with_reducible exact up_s | (rw [up_n (by omega)]; first | with_reducible assumption | with_reducible exact up_s | (rw [up_n (by omega)]; first | with_reducible assumption | with_reducible exact up_s | (rw [up_n (by omega)]; first | with_reducible assumption | with_reducible exact up_s)))))))))))) (by omega) s1.1 (by omega) (by omega) rfl dX11_place_274 (fun H locs hW hS => ?_)
                            refine k_iinc hx hb hL (i := 6) rfl (by decide) dX11_place_275 (fun ls hL => ?_)
                            replace hL := hL.nrm (l' := [some _, some _, some _, some _, some _, some _, some _, some _, some _, none, some _, some _, some _, some _, none]) rfl
                            rw [show nI s1.1 + Int32.ofInt 1 = nI (s1.1 + 1) from nI_1 _] at hL
                            refine lv_iload hx hb dX11_place_278 (hL.at 7 rfl) ?_
                            refine lv_iload hx hb dX11_place_280 (hL.at 12 rfl) ?_
                            refine lv_if_eq (tgt := 289) hx hb dX11_place_282 (by decide) (fun c282 => ?_) (fun c282 => ?_)
                            · try dsimp only at c282
                              exact absurd c282 (by decide)
                            · try dsimp only at c282
                              refine lv_iconst (v := 1) hx hb dX11_place_285 (by decide) ?_
                              refine lv_topi (fun y hy => ?_)
                              have hy2 : y = nI tt := by rw [htt]; exact hy
                              subst hy2
                              refine lv_goto (tgt := 290) hx hb dX11_place_286 (by decide) ?_
                              refine lv_iadd hx hb dX11_place_290 ?_
                              rw [nI_add]
                              refine k_ist hx hb hL (i := 7) (by decide) dX11_place_291 (fun ls hL => ?_)
                              replace hL := hL.nrm (l' := [some _, some _, some _, some _, some _, some _, some _, some _, some _, none, some _, some _, some _, some _, none]) rfl
                              refine k_iinc hx hb hL (i := 10) rfl (by decide) dX11_place_293 (fun ls hL => ?_)
                              replace hL := hL.nrm (l' := [some _, some _, some _, some _, some _, some _, some _, some _, some _, none, some _, some _, some _, some _, none]) rfl
                              rw [show nI u + Int32.ofInt 1 = nI (u + 1) from nI_1 _] at hL
                              refine lv_goto (tgt := 24) hx hb dX11_place_296 (by decide) ?_
                              exact ih24 (u + 1) _ _ _ (by omega) (by omega) (by rw [← hl, fLay_go hput, show g.1 - (u + 1) = d by omega]) (by rw [show g.1 - (u + 1) = d by omega]; exact hnext _ hput) (okS_put hwd hsp hw ht hS1 (by omega) hput).1 (okH_put hsp hw ht hH1 hput) (by first | exact up_s | exact hc214 | exact hc215 | (rw [up_n (by omega)]; first | exact up_s | exact hc214 | exact hc215 | (rw [up_n (by omega)]; first | exact up_s | exact hc214 | exact hc215))) (by first | exact up_s | exact hc214 | exact hc215 | (rw [up_n (by omega)]; first | exact up_s | exact hc214 | exact hc215 | (rw [up_n (by omega)]; first | exact up_s | exact hc214 | exact hc215))) (fun j a b => by first | exact (up_n (by omega)).trans (hrk j a b) | exact (up_n (by omega)).trans ((up_n (by omega)).trans (hrk j a b))) (by first | exact (up_n (by omega)).trans h211 | exact (up_n (by omega)).trans ((up_n (by omega)).trans h211)) _ _ _ hW hS (hL.le (by repeat (first | exact kle_nil | refine kle_same ?_ | refine kle_drop ?_)))
                    · rw [cl_le] at c188
                      have hnew2 := fNew_none (sp := cl.2.2.2.1) (st := s1) (height := (g.2.1 u)) (show FP.dcmp (g.2.2 u) cl.1 = some .gt by first | exact c188 | exact Decidable.not_not.mp c188)
                      have hnone : fPut cl.1 cl.2.2.2.1 bt s1 (g.2.1 u) (g.2.2 u) = none := by rw [hnput, hbtt]; exact fPutN_3 hnew1 hnew2
                      refine lv_aload_n hx hb dX11_place_191 rfl (hL.at 0 rfl) ?_
                      refine lv_iconst (v := 0) hx hb dX11_place_192 (by decide) ?_
                      refine k_putN (ci := 11) (C := RX9) (T := TX9) (N := 3) (ty := tyX9 0) hx hb hts w_RX9 tyX9 tyX9_ok nmX9 hown hK hW hS (by first | with_reducible assumption | with_reducible exact up_s | (rw [up_n (by omega)]; first | with_reducible assumption | with_reducible exact up_s | (rw [up_n (by omega)]; first | with_reducible assumption | with_reducible exact up_s | (rw [up_n (by omega)]; first | with_reducible assumption | with_reducible exact up_s | (rw [up_n (by omega)]; first | with_reducible assumption | with_reducible exact up_s | (rw [up_n (by omega)]; first | with_reducible assumption | with_reducible exact up_s | (rw [up_n (by omega)]; first | with_reducible assumption | with_reducible exact up_s | (rw [up_n (by omega)]; first | with_reducible assumption | with_reducible exact up_s | (rw [up_n (by omega)]; first | with_reducible assumption | with_reducible exact up_s | (rw [up_n (by omega)]; first | with_reducible assumption | with_reducible exact up_s | (rw [up_n (by omega)]; first | with_reducible assumption | with_reducible exact up_s | (rw [up_n (by omega)]; first | with_reducible assumption | with_reducible exact up_s)))))))))))) (by omega) rfl 0 (by decide) (hq _ q1202 rfl) (fun _ h9 => h9) rfl (by decide +kernel) rfl rfl (by first | exact Nat.le_of_ble_eq_true rfl | (simp only [List.length_set]; exact Nat.le_of_ble_eq_true rfl)) dX11_place_193 (fun H locs hW hS => ?_)
                      rw [hQ]
                      exact k_vret hx hb hr hlocks hW hS (by omega) (by omega) dX11_place_196 (⟨rfl, fun j h1 h2 => (hdk8 j h2).trans (hdk2 j h1), Or.inl ⟨by rw [← hl]; exact fLay_no hnone, up_s⟩, fun j a b c9 => (up_n a).trans (hrk j b c9)⟩)
            · try dsimp only at c124
              have hlt2 : f2 < s1.1 := by
                rcases Nat.lt_or_ge f2 s1.1 with q9 | q9
                · exact q9
                · exact absurd (nI_le q9 (by omega)) c124
              have hin2 : fInto s1 (g.2.2 u) (g.2.1 u) = some (s1.1, s1.2.1, s1.2.2.1, s1.2.2.2.1, vf_upd s1.2.2.2.2 f2 (FP.dsub (s1.2.2.2.2 f2) (g.2.2 u))) := by
                unfold fInto
                rw [← hf2, if_pos hlt2]
              have hput : fPut cl.1 cl.2.2.2.1 bt s1 (g.2.1 u) (g.2.2 u) = some (fTurn (s1.1, s1.2.1, s1.2.2.1, s1.2.2.2.1, vf_upd s1.2.2.2.2 f2 (FP.dsub (s1.2.2.2.2 f2) (g.2.2 u)))) := by rw [hbtt]; exact fPut_2 hno1 hin2
              refine lv_aload hx hb dX11_place_127 (hL.at 5 rfl) ?_
              refine lv_iload hx hb dX11_place_129 (hL.at 11 rfl) ?_
              refine lv_aload hx hb dX11_place_131 (hL.at 5 rfl) ?_
              refine lv_iload hx hb dX11_place_133 (hL.at 11 rfl) ?_
              refine k_dald hx hb hK hW (by first | with_reducible assumption | with_reducible exact up_s | (rw [up_n (by omega)]; first | with_reducible assumption | with_reducible exact up_s | (rw [up_n (by omega)]; first | with_reducible assumption | with_reducible exact up_s | (rw [up_n (by omega)]; first | with_reducible assumption | with_reducible exact up_s | (rw [up_n (by omega)]; first | with_reducible assumption | with_reducible exact up_s | (rw [up_n (by omega)]; first | with_reducible assumption | with_reducible exact up_s | (rw [up_n (by omega)]; first | with_reducible assumption | with_reducible exact up_s | (rw [up_n (by omega)]; first | with_reducible assumption | with_reducible exact up_s | (rw [up_n (by omega)]; first | with_reducible assumption | with_reducible exact up_s | (rw [up_n (by omega)]; first | with_reducible assumption | with_reducible exact up_s | (rw [up_n (by omega)]; first | with_reducible assumption | with_reducible exact up_s | (rw [up_n (by omega)]; first | with_reducible assumption | with_reducible exact up_s)))))))))))) f2 (by omega) (by omega) rfl dX11_place_135 ?_
              refine lv_aload_n hx hb dX11_place_136 rfl (hL.at 2 rfl) ?_
              refine lv_iload hx hb dX11_place_137 (hL.at 10 rfl) ?_
              refine k_dald hx hb hK hW (by first | with_reducible assumption | with_reducible exact up_s | (rw [up_n (by omega)]; first | with_reducible assumption | with_reducible exact up_s | (rw [up_n (by omega)]; first | with_reducible assumption | with_reducible exact up_s | (rw [up_n (by omega)]; first | with_reducible assumption | with_reducible exact up_s | (rw [up_n (by omega)]; first | with_reducible assumption | with_reducible exact up_s | (rw [up_n (by omega)]; first | with_reducible assumption | with_reducible exact up_s | (rw [up_n (by omega)]; first | with_reducible assumption | with_reducible exact up_s | (rw [up_n (by omega)]; first | with_reducible assumption | with_reducible exact up_s | (rw [up_n (by omega)]; first | with_reducible assumption | with_reducible exact up_s | (rw [up_n (by omega)]; first | with_reducible assumption | with_reducible exact up_s | (rw [up_n (by omega)]; first | with_reducible assumption | with_reducible exact up_s | (rw [up_n (by omega)]; first | with_reducible assumption | with_reducible exact up_s)))))))))))) u (by omega) (by omega) rfl dX11_place_139 ?_
              refine lv_dsub hx hb dX11_place_140 (hokp.2.2.1 f2 hlt2) ?_
              refine k_dast hx hb hK hW hS (by first | with_reducible assumption | with_reducible exact up_s | (rw [up_n (by omega)]; first | with_reducible assumption | with_reducible exact up_s | (rw [up_n (by omega)]; first | with_reducible assumption | with_reducible exact up_s | (rw [up_n (by omega)]; first | with_reducible assumption | with_reducible exact up_s | (rw [up_n (by omega)]; first | with_reducible assumption | with_reducible exact up_s | (rw [up_n (by omega)]; first | with_reducible assumption | with_reducible exact up_s | (rw [up_n (by omega)]; first | with_reducible assumption | with_reducible exact up_s | (rw [up_n (by omega)]; first | with_reducible assumption | with_reducible exact up_s | (rw [up_n (by omega)]; first | with_reducible assumption | with_reducible exact up_s | (rw [up_n (by omega)]; first | with_reducible assumption | with_reducible exact up_s | (rw [up_n (by omega)]; first | with_reducible assumption | with_reducible exact up_s | (rw [up_n (by omega)]; first | with_reducible assumption | with_reducible exact up_s)))))))))))) (by omega) f2 (by omega) (by omega) rfl dX11_place_141 (fun H locs hW hS => ?_)
              refine k_iinc hx hb hL (i := 7) rfl (by decide) dX11_place_142 (fun ls hL => ?_)
              replace hL := hL.nrm (l' := [some _, some _, some _, some _, some _, some _, some _, some _, some _, none, some _, some _, none, none, none]) rfl
              rw [show nI s1.2.1 + Int32.ofInt 1 = nI (s1.2.1 + 1) from nI_1 _] at hL
              refine lv_goto (tgt := 293) hx hb dX11_place_145 (by decide) ?_
              refine k_iinc hx hb hL (i := 10) rfl (by decide) dX11_place_293 (fun ls hL => ?_)
              replace hL := hL.nrm (l' := [some _, some _, some _, some _, some _, some _, some _, some _, some _, none, some _, some _, none, none, none]) rfl
              rw [show nI u + Int32.ofInt 1 = nI (u + 1) from nI_1 _] at hL
              refine lv_goto (tgt := 24) hx hb dX11_place_296 (by decide) ?_
              exact ih24 (u + 1) _ _ _ (by omega) (by omega) (by rw [← hl, fLay_go hput, show g.1 - (u + 1) = d by omega]) (by rw [show g.1 - (u + 1) = d by omega]; exact hnext _ hput) (okS_put hwd hsp hw ht hS1 (by omega) hput).1 (okH_put hsp hw ht hH1 hput) (by first | exact up_s | exact hc214 | exact hc215 | (rw [up_n (by omega)]; first | exact up_s | exact hc214 | exact hc215 | (rw [up_n (by omega)]; first | exact up_s | exact hc214 | exact hc215))) (by first | exact up_s | exact hc214 | exact hc215 | (rw [up_n (by omega)]; first | exact up_s | exact hc214 | exact hc215 | (rw [up_n (by omega)]; first | exact up_s | exact hc214 | exact hc215))) (fun j a b => by first | exact (up_n (by omega)).trans (hrk j a b) | exact (up_n (by omega)).trans ((up_n (by omega)).trans (hrk j a b))) (by first | exact (up_n (by omega)).trans h211 | exact (up_n (by omega)).trans ((up_n (by omega)).trans h211)) _ _ _ hW hS (hL.le (by repeat (first | exact kle_nil | refine kle_same ?_ | refine kle_drop ?_)))
          · try dsimp only at c93
            have hnp0 : ¬ cl.2.2.2.2.1 = 0 := c93
            have hbtt : bt = false := by rw [hbt, decide_eq_false hnp0]
            have hnput : fPut cl.1 cl.2.2.2.1 bt s1 (g.2.1 u) (g.2.2 u) = fPutN cl.1 cl.2.2.2.1 bt s1 (g.2.1 u) (g.2.2 u) := by rw [hbtt]; exact fPut_4 hno1
            refine lv_iload hx hb dX11_place_96 (hL.at 6 rfl) ?_
            refine lv_goto (tgt := 118) hx hb dX11_place_98 (by decide) ?_
            refine k_ist hx hb hL (i := 11) (by decide) dX11_place_118 (fun ls hL => ?_)
            replace hL := hL.nrm (l' := [some _, some _, some _, some _, some _, some _, some _, some _, some _, none, some _, some _, none, none, none]) rfl
            refine lv_iload hx hb dX11_place_120 (hL.at 11 rfl) ?_
            refine lv_iload hx hb dX11_place_122 (hL.at 6 rfl) ?_
            refine lv_icmp_ge (tgt := 148) hx hb dX11_place_124 (by decide) (fun c124 => ?_) (fun c124 => ?_)
            · try dsimp only at c124
              have hnput : fPut cl.1 cl.2.2.2.1 bt s1 (g.2.1 u) (g.2.2 u) = fPutN cl.1 cl.2.2.2.1 bt s1 (g.2.1 u) (g.2.2 u) := by
                first
                | exact hnput
                | (have hno2 : fInto s1 (g.2.2 u) (g.2.1 u) = none := by
                    unfold fInto
                    rw [← hf2, if_neg (by have := (nI_leI (by omega) (by omega)).mp c124; omega)]
                   rw [hbtt]; exact fPut_3 hno1 hno2)
              refine lv_aload_n hx hb dX11_place_148 rfl (hL.at 1 rfl) ?_
              refine lv_iload hx hb dX11_place_149 (hL.at 10 rfl) ?_
              refine k_dald hx hb hK hW (by first | with_reducible assumption | with_reducible exact up_s | (rw [up_n (by omega)]; first | with_reducible assumption | with_reducible exact up_s | (rw [up_n (by omega)]; first | with_reducible assumption | with_reducible exact up_s | (rw [up_n (by omega)]; first | with_reducible assumption | with_reducible exact up_s | (rw [up_n (by omega)]; first | with_reducible assumption | with_reducible exact up_s | (rw [up_n (by omega)]; first | with_reducible assumption | with_reducible exact up_s | (rw [up_n (by omega)]; first | with_reducible assumption | with_reducible exact up_s | (rw [up_n (by omega)]; first | with_reducible assumption | with_reducible exact up_s | (rw [up_n (by omega)]; first | with_reducible assumption | with_reducible exact up_s | (rw [up_n (by omega)]; first | with_reducible assumption | with_reducible exact up_s | (rw [up_n (by omega)]; first | with_reducible assumption | with_reducible exact up_s | (rw [up_n (by omega)]; first | with_reducible assumption | with_reducible exact up_s)))))))))))) u (by omega) (by omega) rfl dX11_place_151 ?_
              refine lv_aload_n hx hb dX11_place_152 rfl (hL.at 3 rfl) ?_
              refine k_getN (ci := 10) (C := RX8) (T := TX8) (N := 6) hx hb hts w_RX8 hown hK hW (by first | with_reducible assumption | with_reducible exact up_s | (rw [up_n (by omega)]; first | with_reducible assumption | with_reducible exact up_s | (rw [up_n (by omega)]; first | with_reducible assumption | with_reducible exact up_s | (rw [up_n (by omega)]; first | with_reducible assumption | with_reducible exact up_s | (rw [up_n (by omega)]; first | with_reducible assumption | with_reducible exact up_s | (rw [up_n (by omega)]; first | with_reducible assumption | with_reducible exact up_s | (rw [up_n (by omega)]; first | with_reducible assumption | with_reducible exact up_s | (rw [up_n (by omega)]; first | with_reducible assumption | with_reducible exact up_s | (rw [up_n (by omega)]; first | with_reducible assumption | with_reducible exact up_s | (rw [up_n (by omega)]; first | with_reducible assumption | with_reducible exact up_s | (rw [up_n (by omega)]; first | with_reducible assumption | with_reducible exact up_s | (rw [up_n (by omega)]; first | with_reducible assumption | with_reducible exact up_s)))))))))))) rfl 0 (by decide) (hq _ q937 rfl) (fun _ h9 => h9) (by rfl) dX11_place_153 ?_
              refine lv_dcmp hx hb dX11_place_156 ?_
              refine lv_if_le (tgt := 164) hx hb dX11_place_157 (by decide) (fun c157 => ?_) (fun c157 => ?_)
              · rw [cl_le] at c157
                have hnew1 := fNew_some (sp := cl.2.2.2.1) (st := s1) (height := (g.2.2 u)) c157
                obtain ⟨rm, hrm⟩ : ∃ z, z = (g.2.1 u) := ⟨_, rfl⟩
                obtain ⟨hgt, hhg⟩ : ∃ z, z = (g.2.2 u) := ⟨_, rfl⟩
                obtain ⟨tt, htt⟩ : ∃ z : Nat, z = 0 := ⟨_, rfl⟩
                have hokN : okNew cl.1 cl.2.2.2.1 s1 rm hgt := by rw [hrm, hhg]; exact hokp.2.2.2.1
                have hdh : dW hgt := by rw [hhg]; exact ht
                have hput : fPut cl.1 cl.2.2.2.1 bt s1 (g.2.1 u) (g.2.2 u) = some (s1.1 + 1, s1.2.1 + tt, FP.dadd s1.2.2.1 (fRaise cl.2.2.2.1 hgt), vf_upd s1.2.2.2.1 s1.1 (fRaise cl.2.2.2.1 hgt), vf_upd s1.2.2.2.2 s1.1 (FP.dsub cl.1 rm)) := by
                  rw [hnput, hrm, hhg, htt]
                  exact fPutN_1 hnew1
                refine lv_iconst (v := 0) hx hb dX11_place_164 (by decide) ?_
                refine k_ist hx hb hL (i := 12) (by decide) dX11_place_165 (fun ls hL => ?_)
                replace hL := hL.nrm (l' := [some _, some _, some _, some _, some _, some _, some _, some _, some _, none, some _, some _, some _, none, none]) rfl
                refine lv_iload hx hb dX11_place_167 (hL.at 12 rfl) ?_
                refine lv_if_eq (tgt := 197) hx hb dX11_place_169 (by decide) (fun c169 => ?_) (fun c169 => ?_)
                · try dsimp only at c169
                  refine lv_iload hx hb dX11_place_197 (hL.at 12 rfl) ?_
                  refine lv_if_eq (tgt := 209) hx hb dX11_place_199 (by decide) (fun c199 => ?_) (fun c199 => ?_)
                  · try dsimp only at c199
                    refine lv_aload_n hx hb dX11_place_209 rfl (hL.at 2 rfl) ?_
                    refine lv_iload hx hb dX11_place_210 (hL.at 10 rfl) ?_
                    refine k_dald hx hb hK hW (by first | with_reducible assumption | with_reducible exact up_s | (rw [up_n (by omega)]; first | with_reducible assumption | with_reducible exact up_s | (rw [up_n (by omega)]; first | with_reducible assumption | with_reducible exact up_s | (rw [up_n (by omega)]; first | with_reducible assumption | with_reducible exact up_s | (rw [up_n (by omega)]; first | with_reducible assumption | with_reducible exact up_s | (rw [up_n (by omega)]; first | with_reducible assumption | with_reducible exact up_s | (rw [up_n (by omega)]; first | with_reducible assumption | with_reducible exact up_s | (rw [up_n (by omega)]; first | with_reducible assumption | with_reducible exact up_s | (rw [up_n (by omega)]; first | with_reducible assumption | with_reducible exact up_s | (rw [up_n (by omega)]; first | with_reducible assumption | with_reducible exact up_s | (rw [up_n (by omega)]; first | with_reducible assumption | with_reducible exact up_s | (rw [up_n (by omega)]; first | with_reducible assumption | with_reducible exact up_s)))))))))))) u (by omega) (by omega) rfl dX11_place_212 ?_
                    refine lv_topd (fun y hy => ?_)
                    have hy2 : y = hgt := hy.trans hhg.symm
                    rw [hy2]
                    clear hy2 hy
                    refine k_dst hx hb hL (i := 13) (by decide) dX11_place_213 (fun ls hL => ?_)
                    replace hL := hL.nrm (l' := [some _, some _, some _, some _, some _, some _, some _, some _, some _, none, some _, some _, some _, some _, none]) rfl
                    refine lv_aload hx hb dX11_place_215 (hL.at 4 rfl) ?_
                    refine lv_iload hx hb dX11_place_217 (hL.at 6 rfl) ?_
                    refine lv_aload_n hx hb dX11_place_219 rfl (hL.at 3 rfl) ?_
                    refine k_getN (ci := 10) (C := RX8) (T := TX8) (N := 6) hx hb hts w_RX8 hown hK hW (by first | with_reducible assumption | with_reducible exact up_s | (rw [up_n (by omega)]; first | with_reducible assumption | with_reducible exact up_s | (rw [up_n (by omega)]; first | with_reducible assumption | with_reducible exact up_s | (rw [up_n (by omega)]; first | with_reducible assumption | with_reducible exact up_s | (rw [up_n (by omega)]; first | with_reducible assumption | with_reducible exact up_s | (rw [up_n (by omega)]; first | with_reducible assumption | with_reducible exact up_s | (rw [up_n (by omega)]; first | with_reducible assumption | with_reducible exact up_s | (rw [up_n (by omega)]; first | with_reducible assumption | with_reducible exact up_s | (rw [up_n (by omega)]; first | with_reducible assumption | with_reducible exact up_s | (rw [up_n (by omega)]; first | with_reducible assumption | with_reducible exact up_s | (rw [up_n (by omega)]; first | with_reducible assumption | with_reducible exact up_s | (rw [up_n (by omega)]; first | with_reducible assumption | with_reducible exact up_s)))))))))))) rfl 3 (by decide) (hq _ q941 rfl) (fun _ h9 => h9) (by rfl) dX11_place_220 ?_
                    refine lv_if_le (tgt := 246) hx hb dX11_place_223 (by decide) (fun c223 => ?_) (fun c223 => ?_)
                    · try dsimp only at c223
                      have hz : ¬ 0 < cl.2.2.2.1 := nI_le0 c223 (by omega)
                      refine lv_dload hx hb dX11_place_246 (hL.at 13 rfl) ?_
                      refine lv_topd (fun y hy => ?_)
                      have hy2 : y = fRaise cl.2.2.2.1 hgt := hy.trans (fRaise_zero hz)
                      rw [hy2]
                      clear hy2 hy
                      refine k_dast hx hb hK hW hS (by first | with_reducible assumption | with_reducible exact up_s | (rw [up_n (by omega)]; first | with_reducible assumption | with_reducible exact up_s | (rw [up_n (by omega)]; first | with_reducible assumption | with_reducible exact up_s | (rw [up_n (by omega)]; first | with_reducible assumption | with_reducible exact up_s | (rw [up_n (by omega)]; first | with_reducible assumption | with_reducible exact up_s | (rw [up_n (by omega)]; first | with_reducible assumption | with_reducible exact up_s | (rw [up_n (by omega)]; first | with_reducible assumption | with_reducible exact up_s | (rw [up_n (by omega)]; first | with_reducible assumption | with_reducible exact up_s | (rw [up_n (by omega)]; first | with_reducible assumption | with_reducible exact up_s | (rw [up_n (by omega)]; first | with_reducible assumption | with_reducible exact up_s | (rw [up_n (by omega)]; first | with_reducible assumption | with_reducible exact up_s | (rw [up_n (by omega)]; first | with_reducible assumption | with_reducible exact up_s)))))))))))) (by omega) s1.1 (by omega) (by omega) rfl dX11_place_248 (fun H locs hW hS => ?_)
                      refine lv_aload hx hb dX11_place_249 (hL.at 5 rfl) ?_
                      refine lv_iload hx hb dX11_place_251 (hL.at 6 rfl) ?_
                      refine lv_aload_n hx hb dX11_place_253 rfl (hL.at 3 rfl) ?_
                      refine k_getN (ci := 10) (C := RX8) (T := TX8) (N := 6) hx hb hts w_RX8 hown hK hW (by first | with_reducible assumption | with_reducible exact up_s | (rw [up_n (by omega)]; first | with_reducible assumption | with_reducible exact up_s | (rw [up_n (by omega)]; first | with_reducible assumption | with_reducible exact up_s | (rw [up_n (by omega)]; first | with_reducible assumption | with_reducible exact up_s | (rw [up_n (by omega)]; first | with_reducible assumption | with_reducible exact up_s | (rw [up_n (by omega)]; first | with_reducible assumption | with_reducible exact up_s | (rw [up_n (by omega)]; first | with_reducible assumption | with_reducible exact up_s | (rw [up_n (by omega)]; first | with_reducible assumption | with_reducible exact up_s | (rw [up_n (by omega)]; first | with_reducible assumption | with_reducible exact up_s | (rw [up_n (by omega)]; first | with_reducible assumption | with_reducible exact up_s | (rw [up_n (by omega)]; first | with_reducible assumption | with_reducible exact up_s | (rw [up_n (by omega)]; first | with_reducible assumption | with_reducible exact up_s)))))))))))) rfl 0 (by decide) (hq _ q937 rfl) (fun _ h9 => h9) (by rfl) dX11_place_254 ?_
                      refine lv_iload hx hb dX11_place_257 (hL.at 12 rfl) ?_
                      refine lv_if_eq (tgt := 269) hx hb dX11_place_259 (by decide) (fun c259 => ?_) (fun c259 => ?_)
                      · try dsimp only at c259
                        refine lv_aload_n hx hb dX11_place_269 rfl (hL.at 1 rfl) ?_
                        refine lv_iload hx hb dX11_place_270 (hL.at 10 rfl) ?_
                        refine k_dald hx hb hK hW (by first | with_reducible assumption | with_reducible exact up_s | (rw [up_n (by omega)]; first | with_reducible assumption | with_reducible exact up_s | (rw [up_n (by omega)]; first | with_reducible assumption | with_reducible exact up_s | (rw [up_n (by omega)]; first | with_reducible assumption | with_reducible exact up_s | (rw [up_n (by omega)]; first | with_reducible assumption | with_reducible exact up_s | (rw [up_n (by omega)]; first | with_reducible assumption | with_reducible exact up_s | (rw [up_n (by omega)]; first | with_reducible assumption | with_reducible exact up_s | (rw [up_n (by omega)]; first | with_reducible assumption | with_reducible exact up_s | (rw [up_n (by omega)]; first | with_reducible assumption | with_reducible exact up_s | (rw [up_n (by omega)]; first | with_reducible assumption | with_reducible exact up_s | (rw [up_n (by omega)]; first | with_reducible assumption | with_reducible exact up_s | (rw [up_n (by omega)]; first | with_reducible assumption | with_reducible exact up_s)))))))))))) u (by omega) (by omega) rfl dX11_place_272 ?_
                        refine lv_topd (fun y hy => ?_)
                        have hy2 : y = rm := hy.trans hrm.symm
                        rw [hy2]
                        clear hy2 hy
                        refine lv_dsub hx hb dX11_place_273 hokN.2.1 ?_
                        refine k_dast hx hb hK hW hS (by first | with_reducible assumption | with_reducible exact up_s | (rw [up_n (by omega)]; first | with_reducible assumption | with_reducible exact up_s | (rw [up_n (by omega)]; first | with_reducible assumption | with_reducible exact up_s | (rw [up_n (by omega)]; first | with_reducible assumption | with_reducible exact up_s | (rw [up_n (by omega)]; first | with_reducible assumption | with_reducible exact up_s | (rw [up_n (by omega)]; first | with_reducible assumption | with_reducible exact up_s | (rw [up_n (by omega)]; first | with_reducible assumption | with_reducible exact up_s | (rw [up_n (by omega)]; first | with_reducible assumption | with_reducible exact up_s | (rw [up_n (by omega)]; first | with_reducible assumption | with_reducible exact up_s | (rw [up_n (by omega)]; first | with_reducible assumption | with_reducible exact up_s | (rw [up_n (by omega)]; first | with_reducible assumption | with_reducible exact up_s | (rw [up_n (by omega)]; first | with_reducible assumption | with_reducible exact up_s)))))))))))) (by omega) s1.1 (by omega) (by omega) rfl dX11_place_274 (fun H locs hW hS => ?_)
                        refine k_iinc hx hb hL (i := 6) rfl (by decide) dX11_place_275 (fun ls hL => ?_)
                        replace hL := hL.nrm (l' := [some _, some _, some _, some _, some _, some _, some _, some _, some _, none, some _, some _, some _, some _, none]) rfl
                        rw [show nI s1.1 + Int32.ofInt 1 = nI (s1.1 + 1) from nI_1 _] at hL
                        refine lv_iload hx hb dX11_place_278 (hL.at 7 rfl) ?_
                        refine lv_iload hx hb dX11_place_280 (hL.at 12 rfl) ?_
                        refine lv_if_eq (tgt := 289) hx hb dX11_place_282 (by decide) (fun c282 => ?_) (fun c282 => ?_)
                        · try dsimp only at c282
                          refine lv_iconst (v := 0) hx hb dX11_place_289 (by decide) ?_
                          refine lv_topi (fun y hy => ?_)
                          have hy2 : y = nI tt := by rw [htt]; exact hy
                          subst hy2
                          refine lv_iadd hx hb dX11_place_290 ?_
                          rw [nI_add]
                          refine k_ist hx hb hL (i := 7) (by decide) dX11_place_291 (fun ls hL => ?_)
                          replace hL := hL.nrm (l' := [some _, some _, some _, some _, some _, some _, some _, some _, some _, none, some _, some _, some _, some _, none]) rfl
                          refine k_iinc hx hb hL (i := 10) rfl (by decide) dX11_place_293 (fun ls hL => ?_)
                          replace hL := hL.nrm (l' := [some _, some _, some _, some _, some _, some _, some _, some _, some _, none, some _, some _, some _, some _, none]) rfl
                          rw [show nI u + Int32.ofInt 1 = nI (u + 1) from nI_1 _] at hL
                          refine lv_goto (tgt := 24) hx hb dX11_place_296 (by decide) ?_
                          exact ih24 (u + 1) _ _ _ (by omega) (by omega) (by rw [← hl, fLay_go hput, show g.1 - (u + 1) = d by omega]) (by rw [show g.1 - (u + 1) = d by omega]; exact hnext _ hput) (okS_put hwd hsp hw ht hS1 (by omega) hput).1 (okH_put hsp hw ht hH1 hput) (by first | exact up_s | exact hc214 | exact hc215 | (rw [up_n (by omega)]; first | exact up_s | exact hc214 | exact hc215 | (rw [up_n (by omega)]; first | exact up_s | exact hc214 | exact hc215))) (by first | exact up_s | exact hc214 | exact hc215 | (rw [up_n (by omega)]; first | exact up_s | exact hc214 | exact hc215 | (rw [up_n (by omega)]; first | exact up_s | exact hc214 | exact hc215))) (fun j a b => by first | exact (up_n (by omega)).trans (hrk j a b) | exact (up_n (by omega)).trans ((up_n (by omega)).trans (hrk j a b))) (by first | exact (up_n (by omega)).trans h211 | exact (up_n (by omega)).trans ((up_n (by omega)).trans h211)) _ _ _ hW hS (hL.le (by repeat (first | exact kle_nil | refine kle_same ?_ | refine kle_drop ?_)))
                        · try dsimp only at c282
                          exact absurd c282 (by decide)
                      · try dsimp only at c259
                        exact absurd c259 (by decide)
                    · try dsimp only at c223
                      have hz : 0 < cl.2.2.2.1 := nI_gt0 c223
                      refine lv_dload hx hb dX11_place_226 (hL.at 13 rfl) ?_
                      refine lv_aload_n hx hb dX11_place_228 rfl (hL.at 3 rfl) ?_
                      refine k_getN (ci := 10) (C := RX8) (T := TX8) (N := 6) hx hb hts w_RX8 hown hK hW (by first | with_reducible assumption | with_reducible exact up_s | (rw [up_n (by omega)]; first | with_reducible assumption | with_reducible exact up_s | (rw [up_n (by omega)]; first | with_reducible assumption | with_reducible exact up_s | (rw [up_n (by omega)]; first | with_reducible assumption | with_reducible exact up_s | (rw [up_n (by omega)]; first | with_reducible assumption | with_reducible exact up_s | (rw [up_n (by omega)]; first | with_reducible assumption | with_reducible exact up_s | (rw [up_n (by omega)]; first | with_reducible assumption | with_reducible exact up_s | (rw [up_n (by omega)]; first | with_reducible assumption | with_reducible exact up_s | (rw [up_n (by omega)]; first | with_reducible assumption | with_reducible exact up_s | (rw [up_n (by omega)]; first | with_reducible assumption | with_reducible exact up_s | (rw [up_n (by omega)]; first | with_reducible assumption | with_reducible exact up_s | (rw [up_n (by omega)]; first | with_reducible assumption | with_reducible exact up_s)))))))))))) rfl 3 (by decide) (hq _ q941 rfl) (fun _ h9 => h9) (by rfl) dX11_place_229 ?_
                      refine lv_i2d hx hb dX11_place_232 ?_
                      refine lv_ddiv hx hb dX11_place_233 (hokN.1 hz).1 ?_
                      refine k_ceil G hx hb (hml.trans hL.1.symm) hown hts hq hI hS (hq _ q1234 rfl) (dP_rdiv hz hsp hdh) (Nat.lt_of_le_of_lt (Nat.succ_le_succ (Nat.div_le_self _ _)) (by decide)) (by decide) (by first | decide | exact Nat.le_of_ble_eq_true rfl) dX11_place_234 ?_
                      refine lv_aload_n hx hb dX11_place_237 rfl (hL.at 3 rfl) ?_
                      refine k_getN (ci := 10) (C := RX8) (T := TX8) (N := 6) hx hb hts w_RX8 hown hK hW (by first | with_reducible assumption | with_reducible exact up_s | (rw [up_n (by omega)]; first | with_reducible assumption | with_reducible exact up_s | (rw [up_n (by omega)]; first | with_reducible assumption | with_reducible exact up_s | (rw [up_n (by omega)]; first | with_reducible assumption | with_reducible exact up_s | (rw [up_n (by omega)]; first | with_reducible assumption | with_reducible exact up_s | (rw [up_n (by omega)]; first | with_reducible assumption | with_reducible exact up_s | (rw [up_n (by omega)]; first | with_reducible assumption | with_reducible exact up_s | (rw [up_n (by omega)]; first | with_reducible assumption | with_reducible exact up_s | (rw [up_n (by omega)]; first | with_reducible assumption | with_reducible exact up_s | (rw [up_n (by omega)]; first | with_reducible assumption | with_reducible exact up_s | (rw [up_n (by omega)]; first | with_reducible assumption | with_reducible exact up_s | (rw [up_n (by omega)]; first | with_reducible assumption | with_reducible exact up_s)))))))))))) rfl 3 (by decide) (hq _ q941 rfl) (fun _ h9 => h9) (by rfl) dX11_place_238 ?_
                      refine lv_i2d hx hb dX11_place_241 ?_
                      refine lv_dmul hx hb dX11_place_242 (hokN.1 hz).2 ?_
                      refine lv_topd (fun y hy => ?_)
                      have hy2 : y = fRaise cl.2.2.2.1 hgt := hy.trans (fRaise_pos hz)
                      rw [hy2]
                      clear hy2 hy
                      refine lv_goto (tgt := 248) hx hb dX11_place_243 (by decide) ?_
                      refine k_dast hx hb hK hW hS (by first | with_reducible assumption | with_reducible exact up_s | (rw [up_n (by omega)]; first | with_reducible assumption | with_reducible exact up_s | (rw [up_n (by omega)]; first | with_reducible assumption | with_reducible exact up_s | (rw [up_n (by omega)]; first | with_reducible assumption | with_reducible exact up_s | (rw [up_n (by omega)]; first | with_reducible assumption | with_reducible exact up_s | (rw [up_n (by omega)]; first | with_reducible assumption | with_reducible exact up_s | (rw [up_n (by omega)]; first | with_reducible assumption | with_reducible exact up_s | (rw [up_n (by omega)]; first | with_reducible assumption | with_reducible exact up_s | (rw [up_n (by omega)]; first | with_reducible assumption | with_reducible exact up_s | (rw [up_n (by omega)]; first | with_reducible assumption | with_reducible exact up_s | (rw [up_n (by omega)]; first | with_reducible assumption | with_reducible exact up_s | (rw [up_n (by omega)]; first | with_reducible assumption | with_reducible exact up_s)))))))))))) (by omega) s1.1 (by omega) (by omega) rfl dX11_place_248 (fun H locs hW hS => ?_)
                      refine lv_aload hx hb dX11_place_249 (hL.at 5 rfl) ?_
                      refine lv_iload hx hb dX11_place_251 (hL.at 6 rfl) ?_
                      refine lv_aload_n hx hb dX11_place_253 rfl (hL.at 3 rfl) ?_
                      refine k_getN (ci := 10) (C := RX8) (T := TX8) (N := 6) hx hb hts w_RX8 hown hK hW (by first | with_reducible assumption | with_reducible exact up_s | (rw [up_n (by omega)]; first | with_reducible assumption | with_reducible exact up_s | (rw [up_n (by omega)]; first | with_reducible assumption | with_reducible exact up_s | (rw [up_n (by omega)]; first | with_reducible assumption | with_reducible exact up_s | (rw [up_n (by omega)]; first | with_reducible assumption | with_reducible exact up_s | (rw [up_n (by omega)]; first | with_reducible assumption | with_reducible exact up_s | (rw [up_n (by omega)]; first | with_reducible assumption | with_reducible exact up_s | (rw [up_n (by omega)]; first | with_reducible assumption | with_reducible exact up_s | (rw [up_n (by omega)]; first | with_reducible assumption | with_reducible exact up_s | (rw [up_n (by omega)]; first | with_reducible assumption | with_reducible exact up_s | (rw [up_n (by omega)]; first | with_reducible assumption | with_reducible exact up_s | (rw [up_n (by omega)]; first | with_reducible assumption | with_reducible exact up_s)))))))))))) rfl 0 (by decide) (hq _ q937 rfl) (fun _ h9 => h9) (by rfl) dX11_place_254 ?_
                      refine lv_iload hx hb dX11_place_257 (hL.at 12 rfl) ?_
                      refine lv_if_eq (tgt := 269) hx hb dX11_place_259 (by decide) (fun c259 => ?_) (fun c259 => ?_)
                      · try dsimp only at c259
                        refine lv_aload_n hx hb dX11_place_269 rfl (hL.at 1 rfl) ?_
                        refine lv_iload hx hb dX11_place_270 (hL.at 10 rfl) ?_
                        refine k_dald hx hb hK hW (by first | with_reducible assumption | with_reducible exact up_s | (rw [up_n (by omega)]; first | with_reducible assumption | with_reducible exact up_s | (rw [up_n (by omega)]; first | with_reducible assumption | with_reducible exact up_s | (rw [up_n (by omega)]; first | with_reducible assumption | with_reducible exact up_s | (rw [up_n (by omega)]; first | with_reducible assumption | with_reducible exact up_s | (rw [up_n (by omega)]; first | with_reducible assumption | with_reducible exact up_s | (rw [up_n (by omega)]; first | with_reducible assumption | with_reducible exact up_s | (rw [up_n (by omega)]; first | with_reducible assumption | with_reducible exact up_s | (rw [up_n (by omega)]; first | with_reducible assumption | with_reducible exact up_s | (rw [up_n (by omega)]; first | with_reducible assumption | with_reducible exact up_s | (rw [up_n (by omega)]; first | with_reducible assumption | with_reducible exact up_s | (rw [up_n (by omega)]; first | with_reducible assumption | with_reducible exact up_s)))))))))))) u (by omega) (by omega) rfl dX11_place_272 ?_
                        refine lv_topd (fun y hy => ?_)
                        have hy2 : y = rm := hy.trans hrm.symm
                        rw [hy2]
                        clear hy2 hy
                        refine lv_dsub hx hb dX11_place_273 hokN.2.1 ?_
                        refine k_dast hx hb hK hW hS (by first | with_reducible assumption | with_reducible exact up_s | (rw [up_n (by omega)]; first | with_reducible assumption | with_reducible exact up_s | (rw [up_n (by omega)]; first | with_reducible assumption | with_reducible exact up_s | (rw [up_n (by omega)]; first | with_reducible assumption | with_reducible exact up_s | (rw [up_n (by omega)]; first | with_reducible assumption | with_reducible exact up_s | (rw [up_n (by omega)]; first | with_reducible assumption | with_reducible exact up_s | (rw [up_n (by omega)]; first | with_reducible assumption | with_reducible exact up_s | (rw [up_n (by omega)]; first | with_reducible assumption | with_reducible exact up_s | (rw [up_n (by omega)]; first | with_reducible assumption | with_reducible exact up_s | (rw [up_n (by omega)]; first | with_reducible assumption | with_reducible exact up_s | (rw [up_n (by omega)]; first | with_reducible assumption | with_reducible exact up_s | (rw [up_n (by omega)]; first | with_reducible assumption | with_reducible exact up_s)))))))))))) (by omega) s1.1 (by omega) (by omega) rfl dX11_place_274 (fun H locs hW hS => ?_)
                        refine k_iinc hx hb hL (i := 6) rfl (by decide) dX11_place_275 (fun ls hL => ?_)
                        replace hL := hL.nrm (l' := [some _, some _, some _, some _, some _, some _, some _, some _, some _, none, some _, some _, some _, some _, none]) rfl
                        rw [show nI s1.1 + Int32.ofInt 1 = nI (s1.1 + 1) from nI_1 _] at hL
                        refine lv_iload hx hb dX11_place_278 (hL.at 7 rfl) ?_
                        refine lv_iload hx hb dX11_place_280 (hL.at 12 rfl) ?_
                        refine lv_if_eq (tgt := 289) hx hb dX11_place_282 (by decide) (fun c282 => ?_) (fun c282 => ?_)
                        · try dsimp only at c282
                          refine lv_iconst (v := 0) hx hb dX11_place_289 (by decide) ?_
                          refine lv_topi (fun y hy => ?_)
                          have hy2 : y = nI tt := by rw [htt]; exact hy
                          subst hy2
                          refine lv_iadd hx hb dX11_place_290 ?_
                          rw [nI_add]
                          refine k_ist hx hb hL (i := 7) (by decide) dX11_place_291 (fun ls hL => ?_)
                          replace hL := hL.nrm (l' := [some _, some _, some _, some _, some _, some _, some _, some _, some _, none, some _, some _, some _, some _, none]) rfl
                          refine k_iinc hx hb hL (i := 10) rfl (by decide) dX11_place_293 (fun ls hL => ?_)
                          replace hL := hL.nrm (l' := [some _, some _, some _, some _, some _, some _, some _, some _, some _, none, some _, some _, some _, some _, none]) rfl
                          rw [show nI u + Int32.ofInt 1 = nI (u + 1) from nI_1 _] at hL
                          refine lv_goto (tgt := 24) hx hb dX11_place_296 (by decide) ?_
                          exact ih24 (u + 1) _ _ _ (by omega) (by omega) (by rw [← hl, fLay_go hput, show g.1 - (u + 1) = d by omega]) (by rw [show g.1 - (u + 1) = d by omega]; exact hnext _ hput) (okS_put hwd hsp hw ht hS1 (by omega) hput).1 (okH_put hsp hw ht hH1 hput) (by first | exact up_s | exact hc214 | exact hc215 | (rw [up_n (by omega)]; first | exact up_s | exact hc214 | exact hc215 | (rw [up_n (by omega)]; first | exact up_s | exact hc214 | exact hc215))) (by first | exact up_s | exact hc214 | exact hc215 | (rw [up_n (by omega)]; first | exact up_s | exact hc214 | exact hc215 | (rw [up_n (by omega)]; first | exact up_s | exact hc214 | exact hc215))) (fun j a b => by first | exact (up_n (by omega)).trans (hrk j a b) | exact (up_n (by omega)).trans ((up_n (by omega)).trans (hrk j a b))) (by first | exact (up_n (by omega)).trans h211 | exact (up_n (by omega)).trans ((up_n (by omega)).trans h211)) _ _ _ hW hS (hL.le (by repeat (first | exact kle_nil | refine kle_same ?_ | refine kle_drop ?_)))
                        · try dsimp only at c282
                          exact absurd c282 (by decide)
                      · try dsimp only at c259
                        exact absurd c259 (by decide)
                  · try dsimp only at c199
                    exact absurd c199 (by decide)
                · try dsimp only at c169
                  exact absurd c169 (by decide)
              · rw [cl_le] at c157
                have hnew1 := fNew_none (sp := cl.2.2.2.1) (st := s1) (height := (g.2.2 u)) (show FP.dcmp (g.2.1 u) cl.1 = some .gt by first | exact c157 | exact Decidable.not_not.mp c157)
                refine lv_iconst (v := 1) hx hb dX11_place_160 (by decide) ?_
                refine lv_goto (tgt := 165) hx hb dX11_place_161 (by decide) ?_
                refine k_ist hx hb hL (i := 12) (by decide) dX11_place_165 (fun ls hL => ?_)
                replace hL := hL.nrm (l' := [some _, some _, some _, some _, some _, some _, some _, some _, some _, none, some _, some _, some _, none, none]) rfl
                refine lv_iload hx hb dX11_place_167 (hL.at 12 rfl) ?_
                refine lv_if_eq (tgt := 197) hx hb dX11_place_169 (by decide) (fun c169 => ?_) (fun c169 => ?_)
                · try dsimp only at c169
                  exact absurd c169 (by decide)
                · try dsimp only at c169
                  refine lv_aload_n hx hb dX11_place_172 rfl (hL.at 3 rfl) ?_
                  refine k_getN (ci := 10) (C := RX8) (T := TX8) (N := 6) hx hb hts w_RX8 hown hK hW (by first | with_reducible assumption | with_reducible exact up_s | (rw [up_n (by omega)]; first | with_reducible assumption | with_reducible exact up_s | (rw [up_n (by omega)]; first | with_reducible assumption | with_reducible exact up_s | (rw [up_n (by omega)]; first | with_reducible assumption | with_reducible exact up_s | (rw [up_n (by omega)]; first | with_reducible assumption | with_reducible exact up_s | (rw [up_n (by omega)]; first | with_reducible assumption | with_reducible exact up_s | (rw [up_n (by omega)]; first | with_reducible assumption | with_reducible exact up_s | (rw [up_n (by omega)]; first | with_reducible assumption | with_reducible exact up_s | (rw [up_n (by omega)]; first | with_reducible assumption | with_reducible exact up_s | (rw [up_n (by omega)]; first | with_reducible assumption | with_reducible exact up_s | (rw [up_n (by omega)]; first | with_reducible assumption | with_reducible exact up_s | (rw [up_n (by omega)]; first | with_reducible assumption | with_reducible exact up_s)))))))))))) rfl 4 (by decide) (hq _ q942 rfl) (fun _ h9 => h9) (by rfl) dX11_place_173 ?_
                  refine lv_if_ne (tgt := 191) hx hb dX11_place_176 (by decide) (fun c176 => ?_) (fun c176 => ?_)
                  · try dsimp only at c176
                    have hnone : fPut cl.1 cl.2.2.2.1 bt s1 (g.2.1 u) (g.2.2 u) = none := by rw [hnput, hbtt]; exact fPutN_4 hnew1
                    refine lv_aload_n hx hb dX11_place_191 rfl (hL.at 0 rfl) ?_
                    refine lv_iconst (v := 0) hx hb dX11_place_192 (by decide) ?_
                    refine k_putN (ci := 11) (C := RX9) (T := TX9) (N := 3) (ty := tyX9 0) hx hb hts w_RX9 tyX9 tyX9_ok nmX9 hown hK hW hS (by first | with_reducible assumption | with_reducible exact up_s | (rw [up_n (by omega)]; first | with_reducible assumption | with_reducible exact up_s | (rw [up_n (by omega)]; first | with_reducible assumption | with_reducible exact up_s | (rw [up_n (by omega)]; first | with_reducible assumption | with_reducible exact up_s | (rw [up_n (by omega)]; first | with_reducible assumption | with_reducible exact up_s | (rw [up_n (by omega)]; first | with_reducible assumption | with_reducible exact up_s | (rw [up_n (by omega)]; first | with_reducible assumption | with_reducible exact up_s | (rw [up_n (by omega)]; first | with_reducible assumption | with_reducible exact up_s | (rw [up_n (by omega)]; first | with_reducible assumption | with_reducible exact up_s | (rw [up_n (by omega)]; first | with_reducible assumption | with_reducible exact up_s | (rw [up_n (by omega)]; first | with_reducible assumption | with_reducible exact up_s | (rw [up_n (by omega)]; first | with_reducible assumption | with_reducible exact up_s)))))))))))) (by omega) rfl 0 (by decide) (hq _ q1202 rfl) (fun _ h9 => h9) rfl (by decide +kernel) rfl rfl (by first | exact Nat.le_of_ble_eq_true rfl | (simp only [List.length_set]; exact Nat.le_of_ble_eq_true rfl)) dX11_place_193 (fun H locs hW hS => ?_)
                    rw [hQ]
                    exact k_vret hx hb hr hlocks hW hS (by omega) (by omega) dX11_place_196 (⟨rfl, fun j h1 h2 => (hdk8 j h2).trans (hdk2 j h1), Or.inl ⟨by rw [← hl]; exact fLay_no hnone, up_s⟩, fun j a b c9 => (up_n a).trans (hrk j b c9)⟩)
                  · try dsimp only at c176
                    first | exact absurd hnp0 c176 | exact absurd c176 hnp0 | exact c176 hnp0
            · try dsimp only at c124
              exact absurd (Int32.le_refl _) c124
        · try dsimp only at c68
          have hlt1 : f1 < s1.1 := by
            rcases Nat.lt_or_ge f1 s1.1 with q9 | q9
            · exact q9
            · exact absurd (nI_le q9 (by omega)) c68
          have hin1 : fInto s1 (g.2.1 u) (g.2.2 u) = some (s1.1, s1.2.1, s1.2.2.1, s1.2.2.2.1, vf_upd s1.2.2.2.2 f1 (FP.dsub (s1.2.2.2.2 f1) (g.2.1 u))) := by
            unfold fInto
            rw [← hf1, if_pos hlt1]
          have hput := fPut_1 (wd := cl.1) (sp := cl.2.2.2.1) (b := bt) hin1
          refine lv_aload hx hb dX11_place_71 (hL.at 5 rfl) ?_
          refine lv_iload hx hb dX11_place_73 (hL.at 11 rfl) ?_
          refine lv_aload hx hb dX11_place_75 (hL.at 5 rfl) ?_
          refine lv_iload hx hb dX11_place_77 (hL.at 11 rfl) ?_
          refine k_dald hx hb hK hW (by first | with_reducible assumption | with_reducible exact up_s | (rw [up_n (by omega)]; first | with_reducible assumption | with_reducible exact up_s | (rw [up_n (by omega)]; first | with_reducible assumption | with_reducible exact up_s | (rw [up_n (by omega)]; first | with_reducible assumption | with_reducible exact up_s | (rw [up_n (by omega)]; first | with_reducible assumption | with_reducible exact up_s | (rw [up_n (by omega)]; first | with_reducible assumption | with_reducible exact up_s | (rw [up_n (by omega)]; first | with_reducible assumption | with_reducible exact up_s | (rw [up_n (by omega)]; first | with_reducible assumption | with_reducible exact up_s | (rw [up_n (by omega)]; first | with_reducible assumption | with_reducible exact up_s | (rw [up_n (by omega)]; first | with_reducible assumption | with_reducible exact up_s | (rw [up_n (by omega)]; first | with_reducible assumption | with_reducible exact up_s | (rw [up_n (by omega)]; first | with_reducible assumption | with_reducible exact up_s)))))))))))) f1 (by omega) (by omega) rfl dX11_place_79 ?_
          refine lv_aload_n hx hb dX11_place_80 rfl (hL.at 1 rfl) ?_
          refine lv_iload hx hb dX11_place_81 (hL.at 10 rfl) ?_
          refine k_dald hx hb hK hW (by first | with_reducible assumption | with_reducible exact up_s | (rw [up_n (by omega)]; first | with_reducible assumption | with_reducible exact up_s | (rw [up_n (by omega)]; first | with_reducible assumption | with_reducible exact up_s | (rw [up_n (by omega)]; first | with_reducible assumption | with_reducible exact up_s | (rw [up_n (by omega)]; first | with_reducible assumption | with_reducible exact up_s | (rw [up_n (by omega)]; first | with_reducible assumption | with_reducible exact up_s | (rw [up_n (by omega)]; first | with_reducible assumption | with_reducible exact up_s | (rw [up_n (by omega)]; first | with_reducible assumption | with_reducible exact up_s | (rw [up_n (by omega)]; first | with_reducible assumption | with_reducible exact up_s | (rw [up_n (by omega)]; first | with_reducible assumption | with_reducible exact up_s | (rw [up_n (by omega)]; first | with_reducible assumption | with_reducible exact up_s | (rw [up_n (by omega)]; first | with_reducible assumption | with_reducible exact up_s)))))))))))) u (by omega) (by omega) rfl dX11_place_83 ?_
          refine lv_dsub hx hb dX11_place_84 (hokp.2.1 f1 hlt1) ?_
          refine k_dast hx hb hK hW hS (by first | with_reducible assumption | with_reducible exact up_s | (rw [up_n (by omega)]; first | with_reducible assumption | with_reducible exact up_s | (rw [up_n (by omega)]; first | with_reducible assumption | with_reducible exact up_s | (rw [up_n (by omega)]; first | with_reducible assumption | with_reducible exact up_s | (rw [up_n (by omega)]; first | with_reducible assumption | with_reducible exact up_s | (rw [up_n (by omega)]; first | with_reducible assumption | with_reducible exact up_s | (rw [up_n (by omega)]; first | with_reducible assumption | with_reducible exact up_s | (rw [up_n (by omega)]; first | with_reducible assumption | with_reducible exact up_s | (rw [up_n (by omega)]; first | with_reducible assumption | with_reducible exact up_s | (rw [up_n (by omega)]; first | with_reducible assumption | with_reducible exact up_s | (rw [up_n (by omega)]; first | with_reducible assumption | with_reducible exact up_s | (rw [up_n (by omega)]; first | with_reducible assumption | with_reducible exact up_s)))))))))))) (by omega) f1 (by omega) (by omega) rfl dX11_place_85 (fun H locs hW hS => ?_)
          refine lv_goto (tgt := 293) hx hb dX11_place_86 (by decide) ?_
          refine k_iinc hx hb hL (i := 10) rfl (by decide) dX11_place_293 (fun ls hL => ?_)
          replace hL := hL.nrm (l' := [some _, some _, some _, some _, some _, some _, some _, some _, some _, none, some _, some _, none, none, none]) rfl
          rw [show nI u + Int32.ofInt 1 = nI (u + 1) from nI_1 _] at hL
          refine lv_goto (tgt := 24) hx hb dX11_place_296 (by decide) ?_
          exact ih24 (u + 1) _ _ _ (by omega) (by omega) (by rw [← hl, fLay_go hput, show g.1 - (u + 1) = d by omega]) (by rw [show g.1 - (u + 1) = d by omega]; exact hnext _ hput) (okS_put hwd hsp hw ht hS1 (by omega) hput).1 (okH_put hsp hw ht hH1 hput) (by first | exact up_s | exact hc214 | exact hc215 | (rw [up_n (by omega)]; first | exact up_s | exact hc214 | exact hc215 | (rw [up_n (by omega)]; first | exact up_s | exact hc214 | exact hc215))) (by first | exact up_s | exact hc214 | exact hc215 | (rw [up_n (by omega)]; first | exact up_s | exact hc214 | exact hc215 | (rw [up_n (by omega)]; first | exact up_s | exact hc214 | exact hc215))) (fun j a b => by first | exact (up_n (by omega)).trans (hrk j a b) | exact (up_n (by omega)).trans ((up_n (by omega)).trans (hrk j a b))) (by first | exact (up_n (by omega)).trans h211 | exact (up_n (by omega)).trans ((up_n (by omega)).trans h211)) _ _ _ hW hS (hL.le (by repeat (first | exact kle_nil | refine kle_same ?_ | refine kle_drop ?_)))
  exact loop24 (g.1 + 1) 0 cD0 (0, 0, cD0, fun _ => 0, fun _ => 0) _ (by omega) (Nat.zero_le _) rfl hrun0.1 okS_0 ⟨fun r hr => absurd hr (Nat.not_lt_zero _), rfl⟩ ((up_n (by omega)).trans up_s) up_s (fun j a b => (up_n (by omega)).trans (up_n (by omega))) ((up_n (by omega)).trans ((up_n (by omega)).trans htd)) _ _ _ hW hS (hL.le (by repeat (first | exact kle_nil | refine kle_same ?_ | refine kle_drop ?_)))
