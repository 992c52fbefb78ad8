/-! StrictMath: the walk of ceil -/
/-- KM.of, for a member of a class with entries that has none itself -/
theorem KM.ofF {L : List (String × Nat × String)} {l : Launch} {D : va_G} {cy : Nat → ClassId} {sad : Nat → Nat} {em : Nat} {s0 : State} {a0 : Array Value} {y : MethodName} {cc : ByteArray} {maxL : Nat} {ret : Option FieldType} {fr lc mc ms : Nat} {As : List Value} {ad : Nat → Nat} {ct : Nat → Option va_E} {Post : kPT} (G : kG L l D cy sad em s0 a0) (hy : plainFor y = true) (h1 : (lg_sl As).length ≤ maxL) (h2 : (kargs As).length ≤ maxL)
    (body : ∀ (p : Program) (e : Env) (s : State) (m : MethodId) (args : Array Value) (below : List Frame) (meth : Method) (c : Code) (ls : Array Slot) (Q : State → Prop), Q = MQ below (kQ D s0 Post) args s mc ms (kA s0) → kH L l D cy sad em s0 a0 p s m args meth c cc maxL y.cls ret → (y.name = "<init>" → meth.name = "<init>") → lvP ls maxL (kargs As ++ List.replicate (maxL - (kargs As).length) none) → kW D s0.heap.size ad ct s.heap → va_S (kA s0) s.heap s.heap [] →
      W p l e (krm fr lc mc ms) s m args below meth c s.heap [] 0 0 Q (F0 m 0 ls [])) : KM l y [.code y cc maxL ret] fr lc mc ms As D s0 ad ct Post := by
  refine va_MetF (cc := cc) (maxL := maxL) (ret := ret) hy rfl ?_
  intro p e s m args below meth c s₁ B hml hv
  obtain ⟨ha, hI, hW⟩ := hv
  rw [show entryFrame m args maxL = _ from (congrArg (fun z => entryFrame m z maxL) ha).trans (lg_entry_eq m As maxL)]
  exact body p e s m args below meth c _ _ rfl ⟨B.exec, B.bytes, B.returns, hml, findClass_of_methodNamed B.named, B.notSynchronized, G.hts hI _, G.hq hI _, G.hK hI, hI⟩ (fun hn => (name_of_methodNamed B.named B.method).1.trans hn) (kent h1 h2) hW va_S.rf

set_option maxHeartbeats 4000000 in
set_option maxRecDepth 100000 in
/-- java/lang/Math.getExponent  -/
theorem m_exp {l : Launch} {D : va_G} {cy : Nat → ClassId} {sad : Nat → Nat} {em : Nat} {s0 : State} {a0 : Array Value} (G : kG kSTR l D cy sad em s0 a0) {ad : Nat → Nat} {ct : Nat → Option va_E} (x : UInt64) :
    KM l yJ9_getExponent_b4643 [.code yJ9_getExponent_b4643 prog_23_method_92_code 2 (some .int)] 1 40 0 0 [.double x] D s0 ad ct (fun v ad' ct' => v = some (.int (fXp x)) ∧ ad' = ad ∧ ct' = ct) := by
  refine KM.ofF G (by decide +kernel) (Nat.le_of_ble_eq_true rfl) (Nat.le_of_ble_eq_true rfl) ?_
  intro p e s m args below meth c ls Q hQ X hin hL hW hS
  obtain ⟨hx, hb, hr, hml, hown, hlocks, hts, hq, hK, hI⟩ := X
  replace hL := hL.nrm (l' := [some _, none]) rfl
  refine lv_dload_n hx hb dJ9_getExponent_b4643_0 rfl (hL.at 0 rfl) ?_
  refine vn_d2l hx hb (hml.trans hL.1.symm) hown (hq _ q1247 rfl) (hq _ q1249 rfl) (hq _ q1248 rfl) (hq _ q85 rfl) (by decide) (by first | decide | exact Nat.le_of_ble_eq_true rfl) dJ9_getExponent_b4643_1 ?_
  refine lv_ldc2 hx hb hown (hq _ q1250 rfl) dJ9_getExponent_b4643_4 ?_
  refine lv_land hx hb dJ9_getExponent_b4643_7 ?_
  refine lv_bipush (v := 52) hx hb dJ9_getExponent_b4643_8 (by decide) ?_
  refine lv_lshr hx hb dJ9_getExponent_b4643_10 rfl ?_
  refine lv_ldc2 hx hb hown (hq _ q1251 rfl) dJ9_getExponent_b4643_11 ?_
  refine lv_lsub hx hb dJ9_getExponent_b4643_14 ?_
  refine lv_l2i hx hb dJ9_getExponent_b4643_15 rfl ?_
  rw [hQ]
  exact k_iret hx hb hr hlocks hW hS (by omega) (by omega) dJ9_getExponent_b4643_16 (⟨rfl, rfl, rfl⟩)

set_option maxHeartbeats 4000000 in
set_option maxRecDepth 100000 in
/-- java/lang/StrictMath.floorOrCeil  -/
theorem m_foc {l : Launch} {D : va_G} {cy : Nat → ClassId} {sad : Nat → Nat} {em : Nat} {s0 : State} {a0 : Array Value} (G : kG kSTR l D cy sad em s0 a0) {ad : Nat → Nat} {ct : Nat → Option va_E} {x : UInt64} {lo hi : Nat} (hd : dP lo hi x) (hh : hi < 2 ^ 36) :
    KM l yJxfc994_floorOrCeil_f4a47 [.code yJxfc994_floorOrCeil_f4a47 prog_26_method_18_code 15 (some .double)] 2 90 0 0 [.double x, .double 9223372036854775808, .double FP.dconst1, .double FP.dconst1] D s0 ad ct (fun v ad' ct' => v = some (.double (fNext x)) ∧ ad' = ad ∧ ct' = ct) := by
  refine KM.of G (by decide) (Nat.le_of_ble_eq_true rfl) (Nat.le_of_ble_eq_true rfl) ?_
  intro p e s m args below meth c ls Q hQ X hin hL hW hS
  obtain ⟨hx, hb, hr, hml, hown, hlocks, hts, hq, hK, hI⟩ := X
  replace hL := hL.nrm (l' := [some _, none, some _, none, some _, none, some _, none, none, none, none, none, none, none, none]) rfl
  refine lv_dload_n hx hb dJxfc994_floorOrCeil_f4a47_0 rfl (hL.at 0 rfl) ?_
  refine k_callS hx hb hml hown hts hI hS hW hL.1 (m_exp G x) (m4 (gT_in q1244 rfl) (gT_in q1245 rfl) (gT_in q69 rfl) (gT_in q1246 rfl)) (show kpar yJ9_getExponent_b4643 1 from ⟨by decide, by decide, by decide +kernel⟩) ⟨by decide, by decide⟩ (by show _ ≤ (0 : Nat); omega) (by show _ ≤ (0 : Nat); omega) rfl (by first | decide | exact Nat.le_of_ble_eq_true rfl) dJxfc994_floorOrCeil_f4a47_1 (fun v ad1 ct1 H locs hp hW hS => ?_)
  obtain ⟨rfl, h1, h2⟩ := hp
  rw [h1, h2] at hW
  rcases fXp_cases hd hh with ⟨hng, hl1⟩ | ⟨k, hk, hE, hXp⟩
  · refine k_ist hx hb hL (i := 8) (by decide) dJxfc994_floorOrCeil_f4a47_4 (fun ls hL => ?_)
    replace hL := hL.nrm (l' := [some _, none, some _, none, some _, none, some _, none, some _, none, none, none, none, none, none]) rfl
    refine lv_iload hx hb dJxfc994_floorOrCeil_f4a47_6 (hL.at 8 rfl) ?_
    refine lv_if_ge (tgt := 34) hx hb dJxfc994_floorOrCeil_f4a47_8 (by decide) (fun c8 => ?_) (fun c8 => ?_)
    · try dsimp only at c8
      first | exact absurd c8 hng | exact absurd hps c8
    · try dsimp only at c8
      refine lv_dload_n hx hb dJxfc994_floorOrCeil_f4a47_11 rfl (hL.at 0 rfl) ?_
      refine lv_dconst0 hx hb dJxfc994_floorOrCeil_f4a47_12 ?_
      refine lv_dcmp hx hb dJxfc994_floorOrCeil_f4a47_13 ?_
      refine lv_if_ne (tgt := 21) hx hb dJxfc994_floorOrCeil_f4a47_14 (by decide) (fun c14 => ?_) (fun c14 => ?_)
      · rw [cl_eq] at c14
        refine lv_dload_n hx hb dJxfc994_floorOrCeil_f4a47_21 rfl (hL.at 0 rfl) ?_
        refine lv_dconst0 hx hb dJxfc994_floorOrCeil_f4a47_22 ?_
        refine lv_dcmp hx hb dJxfc994_floorOrCeil_f4a47_23 ?_
        refine lv_if_ge (tgt := 31) hx hb dJxfc994_floorOrCeil_f4a47_24 (by decide) (fun c24 => ?_) (fun c24 => ?_)
        · rw [cg_ge] at c24
          refine lv_dload hx hb dJxfc994_floorOrCeil_f4a47_31 (hL.at 4 rfl) ?_
          rw [hQ]
          exact k_dret hx hb hr hlocks hW hS (by omega) (by omega) dJxfc994_floorOrCeil_f4a47_33 (⟨congrArg (fun z => some (Value.double z)) (by first | exact fNext_zero hd hh c14 | exact fNext_zero hd hh (Decidable.not_not.mp c14) | exact fNext_one hd hh hl1 c14), rfl, rfl⟩)
        · rw [cg_ge] at c24
          exfalso
          exact absurd (show FP.dcmp x cD0 = some .lt by first | exact c24 | exact Decidable.not_not.mp c24) (by rw [dP_cmp hd dP_c0]; intro z; have h9 := Nat.compare_eq_lt.mp (Option.some.inj z); have h8 := dP_c0.2.2; omega)
      · rw [cl_eq] at c14
        refine lv_dload_n hx hb dJxfc994_floorOrCeil_f4a47_17 rfl (hL.at 0 rfl) ?_
        refine lv_goto (tgt := 33) hx hb dJxfc994_floorOrCeil_f4a47_18 (by decide) ?_
        rw [hQ]
        exact k_dret hx hb hr hlocks hW hS (by omega) (by omega) dJxfc994_floorOrCeil_f4a47_33 (⟨congrArg (fun z => some (Value.double z)) (by first | exact fNext_zero hd hh c14 | exact fNext_zero hd hh (Decidable.not_not.mp c14) | exact fNext_one hd hh hl1 c14), rfl, rfl⟩)
  · rw [hXp]
    have hps : 0 ≤ nI k := nI_le (Nat.zero_le _) (by omega)
    have hlt52 : nI k < 52 := nI_lt (b := 52) hk (by omega)
    have hj : 52 - k < 64 := by omega
    refine k_ist hx hb hL (i := 8) (by decide) dJxfc994_floorOrCeil_f4a47_4 (fun ls hL => ?_)
    replace hL := hL.nrm (l' := [some _, none, some _, none, some _, none, some _, none, some _, none, none, none, none, none, none]) rfl
    refine lv_iload hx hb dJxfc994_floorOrCeil_f4a47_6 (hL.at 8 rfl) ?_
    refine lv_if_ge (tgt := 34) hx hb dJxfc994_floorOrCeil_f4a47_8 (by decide) (fun c8 => ?_) (fun c8 => ?_)
    · try dsimp only at c8
      refine lv_iload hx hb dJxfc994_floorOrCeil_f4a47_34 (hL.at 8 rfl) ?_
      refine lv_bipush (v := 52) hx hb dJxfc994_floorOrCeil_f4a47_36 (by decide) ?_
      refine lv_icmp_lt (tgt := 43) hx hb dJxfc994_floorOrCeil_f4a47_38 (by decide) (fun c38 => ?_) (fun c38 => ?_)
      · try dsimp only at c38
        refine va_gets hx hb (G.hZs hI) hS hown (hq _ q1252 rfl) (fun _ h9 => h9) dJxfc994_floorOrCeil_f4a47_43 ?_
        refine lv_if_ne (tgt := 69) hx hb dJxfc994_floorOrCeil_f4a47_46 (by decide) (fun c46 => ?_) (fun c46 => ?_)
        · try dsimp only at c46
          refine lv_dload_n hx hb dJxfc994_floorOrCeil_f4a47_69 rfl (hL.at 0 rfl) ?_
          refine vn_d2l hx hb (hml.trans hL.1.symm) hown (hq _ q1254 rfl) (hq _ q1249 rfl) (hq _ q1248 rfl) (hq _ q85 rfl) (by decide) (by first | decide | exact Nat.le_of_ble_eq_true rfl) dJxfc994_floorOrCeil_f4a47_70 ?_
          refine k_lst hx hb hL (i := 9) (by decide) dJxfc994_floorOrCeil_f4a47_73 (fun ls hL => ?_)
          replace hL := hL.nrm (l' := [some _, none, some _, none, some _, none, some _, none, some _, some _, none, none, none, none, none]) rfl
          refine lv_ldc2 hx hb hown (hq _ q1255 rfl) dJxfc994_floorOrCeil_f4a47_75 ?_
          refine lv_iload hx hb dJxfc994_floorOrCeil_f4a47_78 (hL.at 8 rfl) ?_
          refine lv_lshr hx hb dJxfc994_floorOrCeil_f4a47_80 rfl ?_
          rw [msk_tab ⟨k, hk⟩]
          refine k_lst hx hb hL (i := 11) (by decide) dJxfc994_floorOrCeil_f4a47_81 (fun ls hL => ?_)
          replace hL := hL.nrm (l' := [some _, none, some _, none, some _, none, some _, none, some _, some _, none, some _, none, none, none]) rfl
          refine lv_lload hx hb dJxfc994_floorOrCeil_f4a47_83 (hL.at 11 rfl) ?_
          refine lv_lload hx hb dJxfc994_floorOrCeil_f4a47_85 (hL.at 9 rfl) ?_
          refine lv_land hx hb dJxfc994_floorOrCeil_f4a47_87 ?_
          refine lv_lconst (v := 0) hx hb dJxfc994_floorOrCeil_f4a47_88 (by decide) ?_
          refine W.lcmp hx hb dJxfc994_floorOrCeil_f4a47_89 ?_
          refine lv_if_ne (tgt := 95) hx hb dJxfc994_floorOrCeil_f4a47_90 (by decide) (fun c90 => ?_) (fun c90 => ?_)
          · try simp only [b2_eq, Decidable.not_not] at c90
            try dsimp only at c90
            have hnz : ¬ x.toNat % 2 ^ (52 - k) = 0 := fun z => c90 ((msk_zero x hj).mpr z)
            refine lv_lload hx hb dJxfc994_floorOrCeil_f4a47_95 (hL.at 9 rfl) ?_
            refine lv_lload hx hb dJxfc994_floorOrCeil_f4a47_97 (hL.at 11 rfl) ?_
            refine lv_ldc2 hx hb hown (hq _ q1256 rfl) dJxfc994_floorOrCeil_f4a47_99 ?_
            refine lv_lxor hx hb dJxfc994_floorOrCeil_f4a47_102 ?_
            refine lv_land hx hb dJxfc994_floorOrCeil_f4a47_103 ?_
            refine vn_l2d (hv := (clr_sn hd (by rw [clr_toNat]; exact Nat.div_mul_le_self _ _))) hx hb (hml.trans hL.1.symm) hown (hq _ q1257 rfl) (hq _ q1259 rfl) (hq _ q1258 rfl) (hq _ q85 rfl) (by decide) (by first | decide | exact Nat.le_of_ble_eq_true rfl) dJxfc994_floorOrCeil_f4a47_104 ?_
            refine k_dst hx hb hL (i := 13) (by decide) dJxfc994_floorOrCeil_f4a47_107 (fun ls hL => ?_)
            replace hL := hL.nrm (l' := [some _, none, some _, none, some _, none, some _, none, some _, some _, none, some _, none, some _, none]) rfl
            have hcw := clr_worth hd hk hE (d := (x.toInt64 &&& (lN (2 ^ (52 - k) - 1) ^^^ -1)).toUInt64) (clr_toNat x)
            have hup := fNext_up hd hh hcw.2.2 hcw.1 (fun z => hnz (hcw.2.1.mpr z))
            have h1m := one_mul_gt hd hh (ge_one hd hE)
            refine lv_dload hx hb dJxfc994_floorOrCeil_f4a47_109 (hL.at 6 rfl) ?_
            refine lv_dload_n hx hb dJxfc994_floorOrCeil_f4a47_111 rfl (hL.at 0 rfl) ?_
            refine lv_dmul hx hb dJxfc994_floorOrCeil_f4a47_112 h1m.1 ?_
            refine lv_dconst0 hx hb dJxfc994_floorOrCeil_f4a47_113 ?_
            refine lv_dcmp hx hb dJxfc994_floorOrCeil_f4a47_114 ?_
            refine lv_if_le (tgt := 125) hx hb dJxfc994_floorOrCeil_f4a47_115 (by decide) (fun c115 => ?_) (fun c115 => ?_)
            · rw [cl_le] at c115
              exact absurd h1m.2 (by first | exact c115 | (intro z; rw [z] at c115; revert c115; decide))
            · rw [cl_le] at c115
              refine lv_dload hx hb dJxfc994_floorOrCeil_f4a47_118 (hL.at 13 rfl) ?_
              refine lv_dload hx hb dJxfc994_floorOrCeil_f4a47_120 (hL.at 6 rfl) ?_
              refine lv_dadd hx hb dJxfc994_floorOrCeil_f4a47_122 (vf_of hup.2) ?_
              refine k_dst hx hb hL (i := 13) (by decide) dJxfc994_floorOrCeil_f4a47_123 (fun ls hL => ?_)
              replace hL := hL.nrm (l' := [some _, none, some _, none, some _, none, some _, none, some _, some _, none, some _, none, some _, none]) rfl
              refine lv_dload hx hb dJxfc994_floorOrCeil_f4a47_125 (hL.at 13 rfl) ?_
              rw [hQ]
              exact k_dret hx hb hr hlocks hW hS (by omega) (by omega) dJxfc994_floorOrCeil_f4a47_127 (⟨congrArg (fun z => some (Value.double z)) hup.1, rfl, rfl⟩)
          · try simp only [b2_eq, Decidable.not_not] at c90
            try dsimp only at c90
            have hz0 : x.toNat % 2 ^ (52 - k) = 0 := (msk_zero x hj).mp c90
            refine lv_dload_n hx hb dJxfc994_floorOrCeil_f4a47_93 rfl (hL.at 0 rfl) ?_
            rw [hQ]
            exact k_dret hx hb hr hlocks hW hS (by omega) (by omega) dJxfc994_floorOrCeil_f4a47_94 (⟨congrArg (fun z => some (Value.double z)) (fNext_whole hd hh ((clr_worth hd hk hE (d := (x.toInt64 &&& (lN (2 ^ (52 - k) - 1) ^^^ -1)).toUInt64) (clr_toNat x)).2.1.mp hz0)), rfl, rfl⟩)
        · try dsimp only at c46
          exact absurd c46 (by decide)
      · try dsimp only at c38
        exact absurd hlt52 c38
    · try dsimp only at c8
      first | exact absurd c8 hng | exact absurd hps c8

set_option maxHeartbeats 4000000 in
set_option maxRecDepth 100000 in
/-- java/lang/StrictMath.ceil  -/
theorem m_ceil {l : Launch} {D : va_G} {cy : Nat → ClassId} {sad : Nat → Nat} {em : Nat} {s0 : State} {a0 : Array Value} (G : kG kSTR l D cy sad em s0 a0) {ad : Nat → Nat} {ct : Nat → Option va_E} {x : UInt64} {lo hi : Nat} (hd : dP lo hi x) (hh : hi < 2 ^ 36) :
    KM l yJxfc994_ceil_294c1 [.code yJxfc994_ceil_294c1 prog_26_method_16_code 2 (some .double)] 3 160 0 0 [.double x] D s0 ad ct (fun v ad' ct' => v = some (.double (fNext x)) ∧ ad' = ad ∧ ct' = ct) := by
  refine KM.of G (by decide) (Nat.le_of_ble_eq_true rfl) (Nat.le_of_ble_eq_true rfl) ?_
  intro p e s m args below meth c ls Q hQ X hin hL hW hS
  obtain ⟨hx, hb, hr, hml, hown, hlocks, hts, hq, hK, hI⟩ := X
  replace hL := hL.nrm (l' := [some _, none]) rfl
  refine lv_dload_n hx hb dJxfc994_ceil_294c1_0 rfl (hL.at 0 rfl) ?_
  refine lv_ldc2d hx hb hown (hq _ q1240 rfl) dJxfc994_ceil_294c1_1 ?_
  refine lv_dconst1 hx hb dJxfc994_ceil_294c1_4 ?_
  refine lv_dconst1 hx hb dJxfc994_ceil_294c1_5 ?_
  refine k_callS hx hb hml hown hts hI hS hW hL.1 (m_foc G hd hh) (m4 (gT_in q1241 rfl) (gT_in q1242 rfl) (gT_in q83 rfl) (gT_in q1243 rfl)) (show kpar yJxfc994_floorOrCeil_f4a47 4 from ⟨by decide, by decide, by decide +kernel⟩) ⟨by decide, by decide⟩ (by show _ ≤ (0 : Nat); omega) (by show _ ≤ (0 : Nat); omega) rfl (by first | decide | exact Nat.le_of_ble_eq_true rfl) dJxfc994_ceil_294c1_6 (fun v ad6 ct6 H locs hp hW hS => ?_)
  obtain ⟨rfl, h1, h2⟩ := hp
  rw [h1, h2] at hW
  rw [hQ]
  exact k_dret hx hb hr hlocks hW hS (by omega) (by omega) dJxfc994_ceil_294c1_9 (⟨rfl, rfl, rfl⟩)
