/-! the reference: what it holds -/
theorem b3_eq {c : Prop} [Decidable c] : ((if c then (0 : Int32) else 1) = 0) ↔ c := by
  by_cases h : c
  · rw [if_pos h]; exact ⟨fun _ => h, fun _ => rfl⟩
  · rw [if_neg h]; exact ⟨fun z => absurd z (by decide), fun z => absurd z h⟩
theorem kIn_m1 {x : Int32} {n : Nat} (hn : n < 2 ^ 20) : (x < 0 ∨ nI n - 1 < x) ↔ ¬ kIn x n := by
  cases n with
  | zero =>
    have e : nI 0 - 1 = (-1 : Int32) := by decide
    rw [e]
    constructor
    · rintro - ⟨j, hj, -⟩
      exact absurd hj (Nat.not_lt_zero _)
    · intro _
      by_cases h : x < 0
      · exact Or.inl h
      · obtain ⟨j, hj, rfl⟩ := nI_of h
        refine Or.inr (Int32.lt_iff_toInt_lt.mpr ?_)
        rw [nI_toInt hj]
        have : (-1 : Int32).toInt = -1 := by decide
        omega
  | succ n =>
    rw [nI_pred]
    constructor
    · exact fun h => kIn_nle h (by omega)
    · intro h
      by_cases q : x < 0 ∨ nI n < x
      · exact q
      · exact absurd (kIn_le q (by omega)) h
abbrev rCl (c : tCl) : va_E := .inr (10, [.double c.1, .double c.2.1, .float (fShr c.2.2.1), .int (nI c.2.2.2.1), .int c.2.2.2.2.1, .int (nI c.2.2.2.2.2)])
def fI4 (g : Nat → Nat) : Nat → Int32 := fun j => if j < 4 then nI (g j) else 0
def fPc4 (pc : tPc) : Nat → Nat := fMs pc.1 pc.2.1 pc.2.2.1 pc.2.2.2
abbrev rOr (ad : Nat → Nat) (i : Nat) (o : tOr) : va_E := .inr (12, [.int (nI (oP o)), .int (nI (oS o)), .int (oDue o), .int (nI (oState o)), .int (oCloth o), .int (oFit o), .int (oHand o), .double (oReady o), .double (oNeeds o), .ref (ad (if oState o = 0 then 180 + i else 190 + i))])
def fF (M : tM) : Nat → UInt64 := fun i => if i < mH M then (mha M i).2 else 0
def fP (M : tM) : Nat → UInt32 := fun i => if i < mH M then fPace (mha M i).1 else 0
abbrev oMod (ad : Nat → Nat) (M : tM) (th : Int32) (sm : Int64) : va_E := .inr (13, [.int th, .ref (ad 101), .ref (ad 102), .ref (ad 103), .ref (ad 104), .ref (ad 105), .ref (ad 106), .int (nI (mH M)), .double (mClk M), .int (mShut M), .int (mPur M), .int (mRef M), .long sm])
/-- the reference's lists and what lies in them, its own object apart -/
def RepL0 (cy : Nat → ClassId) (ad : Nat → Nat) (ct : Nat → Option va_E) (M : tM) : Prop :=
  (rLst cy ad ct 101 111 120 (mC M) ∧ rLst cy ad ct 102 112 130 (mP M) ∧ rLst cy ad ct 103 113 140 (mS M) ∧ rLst cy ad ct 104 114 170 (mO M)) ∧
  (ct 105 = some (.inl (cy 0, 3, aD (fF M))) ∧ ct 106 = some (.inl (cy 2, 3, aF (fP M)))) ∧
  (∀ i, i < mC M → ct (120 + i) = some (rCl (mcl M i))) ∧
  (∀ i, i < mP M → ct (130 + i) = some (.inl (cy 1, 4, aI (fI4 (mpe M i))))) ∧
  (∀ i, i < mS M → rLst cy ad ct (140 + i) (144 + i) (150 + 5 * i) (mst M i).1) ∧
  (∀ i, i < mS M → ∀ j, j < (mst M i).1 → ct (150 + 5 * i + j) = some (.inl (cy 1, 4, aI (fI4 (fPc4 ((mst M i).2.1 j)))))) ∧
  (∀ i, i < mO M → ct (170 + i) = some (rOr ad i (mod M i))) ∧
  (∀ i, i < mO M → (oState (mod M i) = 0 → ct (180 + i) = some (.inl (cy 0, 0, aD (fun _ => 0)))) ∧ (oState (mod M i) ≠ 0 → ct (190 + i) = some (.inl (cy 0, (mst M (oS (mod M i))).1, aD (oBod (mod M i)))))) ∧
  ct 0 = none
def RepR (cy : Nat → ClassId) (ad : Nat → Nat) (ct : Nat → Option va_E) (M : tM) (th : Int32) (sm : Int64) : Prop := ct 100 = some (oMod ad M th sm) ∧ RepL0 cy ad ct M
def FreeR (ct : Nat → Option va_E) (M : tM) : Prop :=
  (∀ i, mC M ≤ i → i < 4 → ct (120 + i) = none) ∧ (∀ i, mP M ≤ i → i < 6 → ct (130 + i) = none) ∧ (∀ i, mS M ≤ i → i < 3 → ct (140 + i) = none ∧ ct (144 + i) = none) ∧ (∀ i, i < 3 → ∀ j, (i < mS M → (mst M i).1 ≤ j) → j < 5 → ct (150 + 5 * i + j) = none) ∧ (∀ i, mO M ≤ i → i < 8 → ct (170 + i) = none ∧ ct (180 + i) = none) ∧ (∀ i, i < 8 → (i < mO M → oState (mod M i) = 0) → ct (190 + i) = none) ∧ (∀ j, 200 ≤ j → ct j = none)
theorem rLst.get {cy : Nat → ClassId} {ad : Nat → Nat} {ct : Nat → Option va_E} {kl kd base n j : Nat} (h : rLst cy ad ct kl kd base n) (hj : j < n) : ct kl = some (oLs (ad kd) n) ∧ ct kd = some (.inl (cy 10, 10, aQ (kqs ad base n))) ∧ kqs ad base n j = some (ad (base + j)) := by
  have h1 := h.1
  rw [if_neg (by omega)] at h1
  exact ⟨h1, h.2.1 (by omega), if_pos hj⟩
theorem c_jgetL {l : Launch} {D : va_G} {cy : Nat → ClassId} {sad : Nat → Nat} {em : Nat} {s0 : State} {a0 : Array Value} (G : kG kSTR l D cy sad em s0 a0) {ad : Nat → Nat} {ct : Nat → Option va_E} {kl kd base n j : Nat} (h : rLst cy ad ct kl kd base n) (hj : j < n) (hn : n ≤ 10) :
    KM l yJx4a65c_get_915e3 [.code yJx4a65c_get_915e3 prog_34_method_20_code 2 (some (.object "java/lang/Object"))] 2 60 0 0 [.ref (ad kl), .int (nI j)] D s0 ad ct (fun v ad' ct' => v = some (.ref (ad (base + j))) ∧ ad' = ad ∧ ct' = ct) :=
  c_jget G (h.get hj).1 (h.get hj).2.1 hj hn (by omega) (h.get hj).2.2
theorem rkI {g : Nat → Nat} {j : Nat} (h : j < 4) : fI4 g j = nI (g j) := if_pos h
theorem rOrd {cy : Nat → ClassId} {ad : Nat → Nat} {ct : Nat → Option va_E} {M : tM} (h : RepL0 cy ad ct M) (ho : okM M) {i : Nat} (hi : i < mO M) :
    ct (170 + i) = some (rOr ad i (mod M i)) ∧ rLst cy ad ct (140 + oS (mod M i)) (144 + oS (mod M i)) (150 + 5 * oS (mod M i)) (mst M (oS (mod M i))).1 ∧ (∀ j, j < (mst M (oS (mod M i))).1 → ct (150 + 5 * oS (mod M i) + j) = some (.inl (cy 1, 4, aI (fI4 (fPc4 ((mst M (oS (mod M i))).2.1 j)))))) ∧ oS (mod M i) < mS M ∧ oP (mod M i) < mP M ∧ okMs (mpe M (oP (mod M i))) ∧ (mst M (oS (mod M i))).1 ≤ 5 ∧ (∀ j, j < (mst M (oS (mod M i))).1 → okPc ((mst M (oS (mod M i))).2.1 j)) ∧ 0 < (mst M (oS (mod M i))).1 ∧ oState (mod M i) ≤ 5 := by
  obtain ⟨-, -, -, -, h5, h6, h7, -⟩ := h
  obtain ⟨-, -, hk2, hk3, -, hk5⟩ := ho
  obtain ⟨q1, q2, q3, q4⟩ := hk5 i hi
  exact ⟨h7 i hi, h5 _ q2, h6 _ q2, q2, q1, hk2 _ q1, (hk3 _ q2).1, (hk3 _ q2).2.2, q3, q4⟩

set_option maxHeartbeats 4000000 in
set_option maxRecDepth 100000 in
/-- TailorBenchModel.refuse  -/
theorem r_refuse {l : Launch} {D : va_G} {cy : Nat → ClassId} {sad : Nat → Nat} {em : Nat} {s0 : State} {a0 : Array Value} (G : kG kSTR l D cy sad em s0 a0) {ad : Nat → Nat} {ct : Nat → Option va_E} {M : tM} {th : Int32} {sm : Int64} (hm0 : ct 100 = some (oMod ad M th sm)) (x : Int32) :
    KM l yX11_refuse [.code yX11_refuse prog_10_method_3_code 2 (some .int)] 0 0 0 0 [.ref (ad 100), .int x] D s0 ad ct (fun v ad' ct' => v = some (.int 0) ∧ ad' = ad ∧ ct' 100 = some (oMod ad M x sm) ∧ ∀ k, k ≠ 100 → ct' k = ct k) := by
  refine KM.of G (by decide) (Nat.le_of_ble_eq_true rfl) (Nat.le_of_ble_eq_true rfl) ?_
  intro p e s m args below meth c ls Q hQ X hin hL hW hS
  obtain ⟨hx, hb, hr, hml, hown, hlocks, hts, hq, hK, hI⟩ := X
  replace hL := hL.nrm (l' := [some _, some _]) rfl
  refine lv_aload_n hx hb dX11_refuse_0 rfl (hL.at 0 rfl) ?_
  refine lv_iload_n hx hb dX11_refuse_1 rfl (hL.at 1 rfl) ?_
  refine k_put (ci := 13) (C := RX11) (T := TX11) (N := 13) (ty := tyX11 0) hx hb hts w_RX11 tyX11 tyX11_ok nmX11 hown hK hW hS (by first | with_reducible assumption | with_reducible exact up_s | (rw [up_n (by omega)]; first | with_reducible assumption | with_reducible exact up_s | (rw [up_n (by omega)]; first | with_reducible assumption | with_reducible exact up_s | (rw [up_n (by omega)]; first | with_reducible assumption | with_reducible exact up_s | (rw [up_n (by omega)]; first | with_reducible assumption | with_reducible exact up_s | (rw [up_n (by omega)]; first | with_reducible assumption | with_reducible exact up_s | (rw [up_n (by omega)]; first | with_reducible assumption | with_reducible exact up_s | (rw [up_n (by omega)]; first | with_reducible assumption | with_reducible exact up_s | (rw [up_n (by omega)]; first | with_reducible assumption | with_reducible exact up_s | (rw [up_n (by omega)]; first | with_reducible assumption | with_reducible exact up_s | (rw [up_n (by omega)]; first | with_reducible assumption | with_reducible exact up_s | (rw [up_n (by omega)]; first | with_reducible assumption | with_reducible exact up_s)))))))))))) (by omega) rfl 0 (by decide) (hq _ q871 rfl) (fun _ h9 => h9) rfl (by decide +kernel) rfl rfl (by first | exact Nat.le_of_ble_eq_true rfl | (simp only [List.length_set]; exact Nat.le_of_ble_eq_true rfl)) dX11_refuse_2 (fun H locs hW hS => ?_)
  refine lv_iconst (v := 0) hx hb dX11_refuse_5 (by decide) ?_
  rw [hQ]
  exact k_iret hx hb hr hlocks hW hS (by omega) (by omega) dX11_refuse_6 (⟨rfl, rfl, up_s, fun k hk => up_n hk⟩)

set_option maxHeartbeats 4000000 in
set_option maxRecDepth 100000 in
/-- TailorBenchModel.is  -/
theorem r_is {l : Launch} {D : va_G} {cy : Nat → ClassId} {sad : Nat → Nat} {em : Nat} {s0 : State} {a0 : Array Value} (G : kG kSTR l D cy sad em s0 a0) {ad : Nat → Nat} {ct : Nat → Option va_E} (x a b : Int32) :
    KM l yX11_is [.code yX11_is prog_10_method_4_code 3 (some .boolean)] 0 0 0 0 [.int x, .int a, .int b] D s0 ad ct (fun v ad' ct' => v = some (.int (if x < a ∨ b < x then 0 else 1)) ∧ ad' = ad ∧ ct' = ct) := by
  refine KM.of G (by decide) (Nat.le_of_ble_eq_true rfl) (Nat.le_of_ble_eq_true rfl) ?_
  intro p e s m args below meth c ls Q hQ X hin hL hW hS
  obtain ⟨hx, hb, hr, hml, hown, hlocks, hts, hq, hK, hI⟩ := X
  replace hL := hL.nrm (l' := [some _, some _, some _]) rfl
  refine lv_iload_n hx hb dX11_is_0 rfl (hL.at 0 rfl) ?_
  refine lv_iload_n hx hb dX11_is_1 rfl (hL.at 1 rfl) ?_
  refine lv_icmp_lt (tgt := 14) hx hb dX11_is_2 (by decide) (fun c2 => ?_) (fun c2 => ?_)
  · try dsimp only at c2
    refine lv_iconst (v := 0) hx hb dX11_is_14 (by decide) ?_
    rw [hQ]
    exact k_zret hx hb hr hlocks rfl hW hS (by omega) (by omega) dX11_is_15 (⟨by simp [*], rfl, rfl⟩)
  · try dsimp only at c2
    refine lv_iload_n hx hb dX11_is_5 rfl (hL.at 0 rfl) ?_
    refine lv_iload_n hx hb dX11_is_6 rfl (hL.at 2 rfl) ?_
    refine lv_icmp_gt (tgt := 14) hx hb dX11_is_7 (by decide) (fun c7 => ?_) (fun c7 => ?_)
    · try dsimp only at c7
      refine lv_iconst (v := 0) hx hb dX11_is_14 (by decide) ?_
      rw [hQ]
      exact k_zret hx hb hr hlocks rfl hW hS (by omega) (by omega) dX11_is_15 (⟨by simp [*], rfl, rfl⟩)
    · try dsimp only at c7
      refine lv_iconst (v := 1) hx hb dX11_is_10 (by decide) ?_
      refine lv_goto (tgt := 15) hx hb dX11_is_11 (by decide) ?_
      rw [hQ]
      exact k_zret hx hb hr hlocks rfl hW hS (by omega) (by omega) dX11_is_15 (⟨by simp [*], rfl, rfl⟩)

set_option maxHeartbeats 4000000 in
set_option maxRecDepth 100000 in
/-- TailorBenchModel.thrown  -/
theorem r_thrown {l : Launch} {D : va_G} {cy : Nat → ClassId} {sad : Nat → Nat} {em : Nat} {s0 : State} {a0 : Array Value} (G : kG kSTR l D cy sad em s0 a0) {ad : Nat → Nat} {ct : Nat → Option va_E} {M : tM} {th : Int32} {sm : Int64} (hm0 : ct 100 = some (oMod ad M th sm))  :
    KM l yX11_thrown [.code yX11_thrown prog_10_method_2_code 1 (some .int)] 0 0 0 0 [.ref (ad 100)] D s0 ad ct (fun v ad' ct' => v = some (.int th) ∧ ad' = ad ∧ ct' = ct) := by
  refine KM.of G (by decide) (Nat.le_of_ble_eq_true rfl) (Nat.le_of_ble_eq_true rfl) ?_
  intro p e s m args below meth c ls Q hQ X hin hL hW hS
  obtain ⟨hx, hb, hr, hml, hown, hlocks, hts, hq, hK, hI⟩ := X
  replace hL := hL.nrm (l' := [some _]) rfl
  refine lv_aload_n hx hb dX11_thrown_0 rfl (hL.at 0 rfl) ?_
  refine k_get (ci := 13) (C := RX11) (T := TX11) (N := 13) hx hb hts w_RX11 hown hK hW (by first | with_reducible assumption | with_reducible exact up_s | (rw [up_n (by omega)]; first | with_reducible assumption | with_reducible exact up_s | (rw [up_n (by omega)]; first | with_reducible assumption | with_reducible exact up_s | (rw [up_n (by omega)]; first | with_reducible assumption | with_reducible exact up_s | (rw [up_n (by omega)]; first | with_reducible assumption | with_reducible exact up_s | (rw [up_n (by omega)]; first | with_reducible assumption | with_reducible exact up_s | (rw [up_n (by omega)]; first | with_reducible assumption | with_reducible exact up_s | (rw [up_n (by omega)]; first | with_reducible assumption | with_reducible exact up_s | (rw [up_n (by omega)]; first | with_reducible assumption | with_reducible exact up_s | (rw [up_n (by omega)]; first | with_reducible assumption | with_reducible exact up_s | (rw [up_n (by omega)]; first | with_reducible assumption | with_reducible exact up_s | (rw [up_n (by omega)]; first | with_reducible assumption | with_reducible exact up_s)))))))))))) rfl 0 (by decide) (hq _ q871 rfl) (fun _ h9 => h9) (by rfl) dX11_thrown_1 ?_
  rw [hQ]
  exact k_iret hx hb hr hlocks hW hS (by omega) (by omega) dX11_thrown_4 (⟨rfl, rfl, rfl⟩)

set_option maxHeartbeats 4000000 in
set_option maxRecDepth 100000 in
/-- TailorBenchModel.clock  -/
theorem r_clock {l : Launch} {D : va_G} {cy : Nat → ClassId} {sad : Nat → Nat} {em : Nat} {s0 : State} {a0 : Array Value} (G : kG kSTR l D cy sad em s0 a0) {ad : Nat → Nat} {ct : Nat → Option va_E} {M : tM} {th : Int32} {sm : Int64} (hm0 : ct 100 = some (oMod ad M th sm))  :
    KM l yX11_clock [.code yX11_clock prog_10_method_46_code 1 (some .double)] 0 0 0 0 [.ref (ad 100)] D s0 ad ct (fun v ad' ct' => v = some (.double (mClk M)) ∧ ad' = ad ∧ ct' 100 = some (oMod ad M 0 sm) ∧ ∀ k, k ≠ 100 → ct' k = ct k) := by
  refine KM.of G (by decide) (Nat.le_of_ble_eq_true rfl) (Nat.le_of_ble_eq_true rfl) ?_
  intro p e s m args below meth c ls Q hQ X hin hL hW hS
  obtain ⟨hx, hb, hr, hml, hown, hlocks, hts, hq, hK, hI⟩ := X
  replace hL := hL.nrm (l' := [some _]) rfl
  refine lv_aload_n hx hb dX11_clock_0 rfl (hL.at 0 rfl) ?_
  refine lv_iconst (v := 0) hx hb dX11_clock_1 (by decide) ?_
  refine k_put (ci := 13) (C := RX11) (T := TX11) (N := 13) (ty := tyX11 0) hx hb hts w_RX11 tyX11 tyX11_ok nmX11 hown hK hW hS (by first | with_reducible assumption | with_reducible exact up_s | (rw [up_n (by omega)]; first | with_reducible assumption | with_reducible exact up_s | (rw [up_n (by omega)]; first | with_reducible assumption | with_reducible exact up_s | (rw [up_n (by omega)]; first | with_reducible assumption | with_reducible exact up_s | (rw [up_n (by omega)]; first | with_reducible assumption | with_reducible exact up_s | (rw [up_n (by omega)]; first | with_reducible assumption | with_reducible exact up_s | (rw [up_n (by omega)]; first | with_reducible assumption | with_reducible exact up_s | (rw [up_n (by omega)]; first | with_reducible assumption | with_reducible exact up_s | (rw [up_n (by omega)]; first | with_reducible assumption | with_reducible exact up_s | (rw [up_n (by omega)]; first | with_reducible assumption | with_reducible exact up_s | (rw [up_n (by omega)]; first | with_reducible assumption | with_reducible exact up_s | (rw [up_n (by omega)]; first | with_reducible assumption | with_reducible exact up_s)))))))))))) (by omega) rfl 0 (by decide) (hq _ q871 rfl) (fun _ h9 => h9) rfl (by decide +kernel) rfl rfl (by first | exact Nat.le_of_ble_eq_true rfl | (simp only [List.length_set]; exact Nat.le_of_ble_eq_true rfl)) dX11_clock_2 (fun H locs hW hS => ?_)
  refine lv_aload_n hx hb dX11_clock_5 rfl (hL.at 0 rfl) ?_
  refine k_get (ci := 13) (C := RX11) (T := TX11) (N := 13) hx hb hts w_RX11 hown hK hW (by first | with_reducible assumption | with_reducible exact up_s | (rw [up_n (by omega)]; first | with_reducible assumption | with_reducible exact up_s | (rw [up_n (by omega)]; first | with_reducible assumption | with_reducible exact up_s | (rw [up_n (by omega)]; first | with_reducible assumption | with_reducible exact up_s | (rw [up_n (by omega)]; first | with_reducible assumption | with_reducible exact up_s | (rw [up_n (by omega)]; first | with_reducible assumption | with_reducible exact up_s | (rw [up_n (by omega)]; first | with_reducible assumption | with_reducible exact up_s | (rw [up_n (by omega)]; first | with_reducible assumption | with_reducible exact up_s | (rw [up_n (by omega)]; first | with_reducible assumption | with_reducible exact up_s | (rw [up_n (by omega)]; first | with_reducible assumption | with_reducible exact up_s | (rw [up_n (by omega)]; first | with_reducible assumption | with_reducible exact up_s | (rw [up_n (by omega)]; first | with_reducible assumption | with_reducible exact up_s)))))))))))) rfl 8 (by decide) (hq _ q879 rfl) (fun _ h9 => h9) (by rfl) dX11_clock_6 ?_
  rw [hQ]
  exact k_dret hx hb hr hlocks hW hS (by omega) (by omega) dX11_clock_9 (⟨rfl, rfl, up_s, fun k hk => up_n hk⟩)

set_option maxHeartbeats 4000000 in
set_option maxRecDepth 100000 in
/-- TailorBenchModel$Cloth.left  -/
theorem r_left {l : Launch} {D : va_G} {cy : Nat → ClassId} {sad : Nat → Nat} {em : Nat} {s0 : State} {a0 : Array Value} (G : kG kSTR l D cy sad em s0 a0) {ad : Nat → Nat} {ct : Nat → Option va_E} {kc : Nat} {cl : tCl} (hc : ct kc = some (rCl cl)) (hk : cl.2.2.1 < 9) :
    KM l yX8_left [.code yX8_left prog_11_method_2_code 1 (some .double)] 0 0 0 0 [.ref (ad kc)] D s0 ad ct (fun v ad' ct' => v = some (.double (fLeft cl.2.2.1)) ∧ ad' = ad ∧ ct' = ct) := by
  refine KM.of G (by decide) (Nat.le_of_ble_eq_true rfl) (Nat.le_of_ble_eq_true rfl) ?_
  intro p e s m args below meth c ls Q hQ X hin hL hW hS
  obtain ⟨hx, hb, hr, hml, hown, hlocks, hts, hq, hK, hI⟩ := X
  replace hL := hL.nrm (l' := [some _]) rfl
  refine lv_dconst1 hx hb dX8_left_0 ?_
  refine lv_aload_n hx hb dX8_left_1 rfl (hL.at 0 rfl) ?_
  refine k_get (ci := 10) (C := RX8) (T := TX8) (N := 6) hx hb hts w_RX8 hown hK hW (by first | with_reducible assumption | with_reducible exact up_s | (rw [up_n (by omega)]; first | with_reducible assumption | with_reducible exact up_s | (rw [up_n (by omega)]; first | with_reducible assumption | with_reducible exact up_s | (rw [up_n (by omega)]; first | with_reducible assumption | with_reducible exact up_s | (rw [up_n (by omega)]; first | with_reducible assumption | with_reducible exact up_s | (rw [up_n (by omega)]; first | with_reducible assumption | with_reducible exact up_s | (rw [up_n (by omega)]; first | with_reducible assumption | with_reducible exact up_s | (rw [up_n (by omega)]; first | with_reducible assumption | with_reducible exact up_s | (rw [up_n (by omega)]; first | with_reducible assumption | with_reducible exact up_s | (rw [up_n (by omega)]; first | with_reducible assumption | with_reducible exact up_s | (rw [up_n (by omega)]; first | with_reducible assumption | with_reducible exact up_s | (rw [up_n (by omega)]; first | with_reducible assumption | with_reducible exact up_s)))))))))))) rfl 2 (by decide) (hq _ q939 rfl) (fun _ h9 => h9) (by rfl) dX8_left_2 ?_
  refine lv_f2d hx hb dX8_left_5 (fShr_no hk) ?_
  refine lv_dsub hx hb dX8_left_6 (fLeft_no hk) ?_
  rw [hQ]
  exact k_dret hx hb hr hlocks hW hS (by omega) (by omega) dX8_left_7 (⟨rfl, rfl, rfl⟩)

set_option maxHeartbeats 4000000 in
set_option maxRecDepth 100000 in
/-- TailorBenchModel.go  -/
theorem r_go {l : Launch} {D : va_G} {cy : Nat → ClassId} {sad : Nat → Nat} {em : Nat} {s0 : State} {a0 : Array Value} (G : kG kSTR l D cy sad em s0 a0) {ad : Nat → Nat} {ct : Nat → Option va_E} {M : tM} {th : Int32} {sm : Int64} (hm0 : ct 100 = some (oMod ad M th sm)) (x : UInt64) (hx0 : vf_n64 (FP.dadd (mClk M) x)) :
    KM l yX11_go [.code yX11_go prog_10_method_5_code 3 none] 0 0 0 0 [.ref (ad 100), .double x] D s0 ad ct (fun v ad' ct' => v = none ∧ ad' = ad ∧ ct' 100 = some (oMod ad (sSh M (fSpend (mClk M) x, M.2.1.2)) th sm) ∧ ∀ k, k ≠ 100 → ct' k = ct k) := by
  refine KM.of G (by decide) (Nat.le_of_ble_eq_true rfl) (Nat.le_of_ble_eq_true rfl) ?_
  intro p e s m args below meth c ls Q hQ X hin hL hW hS
  obtain ⟨hx, hb, hr, hml, hown, hlocks, hts, hq, hK, hI⟩ := X
  replace hL := hL.nrm (l' := [some _, some _, none]) rfl
  refine lv_aload_n hx hb dX11_go_0 rfl (hL.at 0 rfl) ?_
  refine lv_aload_n hx hb dX11_go_1 rfl (hL.at 0 rfl) ?_
  refine k_get (ci := 13) (C := RX11) (T := TX11) (N := 13) hx hb hts w_RX11 hown hK hW (by first | with_reducible assumption | with_reducible exact up_s | (rw [up_n (by omega)]; first | with_reducible assumption | with_reducible exact up_s | (rw [up_n (by omega)]; first | with_reducible assumption | with_reducible exact up_s | (rw [up_n (by omega)]; first | with_reducible assumption | with_reducible exact up_s | (rw [up_n (by omega)]; first | with_reducible assumption | with_reducible exact up_s | (rw [up_n (by omega)]; first | with_reducible assumption | with_reducible exact up_s | (rw [up_n (by omega)]; first | with_reducible assumption | with_reducible exact up_s | (rw [up_n (by omega)]; first | with_reducible assumption | with_reducible exact up_s | (rw [up_n (by omega)]; first | with_reducible assumption | with_reducible exact up_s | (rw [up_n (by omega)]; first | with_reducible assumption | with_reducible exact up_s | (rw [up_n (by omega)]; first | with_reducible assumption | with_reducible exact up_s | (rw [up_n (by omega)]; first | with_reducible assumption | with_reducible exact up_s)))))))))))) rfl 8 (by decide) (hq _ q879 rfl) (fun _ h9 => h9) (by rfl) dX11_go_2 ?_
  refine lv_dload_n hx hb dX11_go_5 rfl (hL.at 1 rfl) ?_
  refine lv_dadd hx hb dX11_go_6 hx0 ?_
  refine k_put (ci := 13) (C := RX11) (T := TX11) (N := 13) (ty := tyX11 8) hx hb hts w_RX11 tyX11 tyX11_ok nmX11 hown hK hW hS (by first | with_reducible assumption | with_reducible exact up_s | (rw [up_n (by omega)]; first | with_reducible assumption | with_reducible exact up_s | (rw [up_n (by omega)]; first | with_reducible assumption | with_reducible exact up_s | (rw [up_n (by omega)]; first | with_reducible assumption | with_reducible exact up_s | (rw [up_n (by omega)]; first | with_reducible assumption | with_reducible exact up_s | (rw [up_n (by omega)]; first | with_reducible assumption | with_reducible exact up_s | (rw [up_n (by omega)]; first | with_reducible assumption | with_reducible exact up_s | (rw [up_n (by omega)]; first | with_reducible assumption | with_reducible exact up_s | (rw [up_n (by omega)]; first | with_reducible assumption | with_reducible exact up_s | (rw [up_n (by omega)]; first | with_reducible assumption | with_reducible exact up_s | (rw [up_n (by omega)]; first | with_reducible assumption | with_reducible exact up_s | (rw [up_n (by omega)]; first | with_reducible assumption | with_reducible exact up_s)))))))))))) (by omega) rfl 8 (by decide) (hq _ q879 rfl) (fun _ h9 => h9) rfl (by decide +kernel) rfl rfl (by first | exact Nat.le_of_ble_eq_true rfl | (simp only [List.length_set]; exact Nat.le_of_ble_eq_true rfl)) dX11_go_7 (fun H locs hW hS => ?_)
  refine lv_aload_n hx hb dX11_go_10 rfl (hL.at 0 rfl) ?_
  refine k_get (ci := 13) (C := RX11) (T := TX11) (N := 13) hx hb hts w_RX11 hown hK hW (by first | with_reducible assumption | with_reducible exact up_s | (rw [up_n (by omega)]; first | with_reducible assumption | with_reducible exact up_s | (rw [up_n (by omega)]; first | with_reducible assumption | with_reducible exact up_s | (rw [up_n (by omega)]; first | with_reducible assumption | with_reducible exact up_s | (rw [up_n (by omega)]; first | with_reducible assumption | with_reducible exact up_s | (rw [up_n (by omega)]; first | with_reducible assumption | with_reducible exact up_s | (rw [up_n (by omega)]; first | with_reducible assumption | with_reducible exact up_s | (rw [up_n (by omega)]; first | with_reducible assumption | with_reducible exact up_s | (rw [up_n (by omega)]; first | with_reducible assumption | with_reducible exact up_s | (rw [up_n (by omega)]; first | with_reducible assumption | with_reducible exact up_s | (rw [up_n (by omega)]; first | with_reducible assumption | with_reducible exact up_s | (rw [up_n (by omega)]; first | with_reducible assumption | with_reducible exact up_s)))))))))))) rfl 8 (by decide) (hq _ q879 rfl) (fun _ h9 => h9) (by rfl) dX11_go_11 ?_
  refine lv_ldc2d hx hb hown (hq _ q1276 rfl) dX11_go_14 ?_
  refine lv_dcmp hx hb dX11_go_17 ?_
  refine lv_if_le (tgt := 28) hx hb dX11_go_18 (by decide) (fun c18 => ?_) (fun c18 => ?_)
  · rw [cl_le] at c18
    have hsp := fSpend_t c18
    rw [hQ]
    exact k_vret hx hb hr hlocks hW hS (by omega) (by omega) dX11_go_28 (⟨rfl, rfl, by rw [hsp]; exact up_s, fun k hk => by first | exact up_n hk | exact (up_n hk).trans (up_n hk)⟩)
  · rw [cl_le] at c18
    have hsp := fSpend_f (Decidable.not_not.mp c18)
    refine lv_aload_n hx hb dX11_go_21 rfl (hL.at 0 rfl) ?_
    refine lv_ldc2d hx hb hown (hq _ q1276 rfl) dX11_go_22 ?_
    refine k_put (ci := 13) (C := RX11) (T := TX11) (N := 13) (ty := tyX11 8) hx hb hts w_RX11 tyX11 tyX11_ok nmX11 hown hK hW hS (by first | with_reducible assumption | with_reducible exact up_s | (rw [up_n (by omega)]; first | with_reducible assumption | with_reducible exact up_s | (rw [up_n (by omega)]; first | with_reducible assumption | with_reducible exact up_s | (rw [up_n (by omega)]; first | with_reducible assumption | with_reducible exact up_s | (rw [up_n (by omega)]; first | with_reducible assumption | with_reducible exact up_s | (rw [up_n (by omega)]; first | with_reducible assumption | with_reducible exact up_s | (rw [up_n (by omega)]; first | with_reducible assumption | with_reducible exact up_s | (rw [up_n (by omega)]; first | with_reducible assumption | with_reducible exact up_s | (rw [up_n (by omega)]; first | with_reducible assumption | with_reducible exact up_s | (rw [up_n (by omega)]; first | with_reducible assumption | with_reducible exact up_s | (rw [up_n (by omega)]; first | with_reducible assumption | with_reducible exact up_s | (rw [up_n (by omega)]; first | with_reducible assumption | with_reducible exact up_s)))))))))))) (by omega) rfl 8 (by decide) (hq _ q879 rfl) (fun _ h9 => h9) rfl (by decide +kernel) rfl rfl (by first | exact Nat.le_of_ble_eq_true rfl | (simp only [List.length_set]; exact Nat.le_of_ble_eq_true rfl)) dX11_go_25 (fun H locs hW hS => ?_)
    rw [hQ]
    exact k_vret hx hb hr hlocks hW hS (by omega) (by omega) dX11_go_28 (⟨rfl, rfl, by rw [hsp]; exact up_s, fun k hk => by first | exact up_n hk | exact (up_n hk).trans (up_n hk)⟩)

set_option maxHeartbeats 4000000 in
set_option maxRecDepth 100000 in
/-- TailorBenchModel.isCloth  -/
theorem r_isCloth {l : Launch} {D : va_G} {cy : Nat → ClassId} {sad : Nat → Nat} {em : Nat} {s0 : State} {a0 : Array Value} (G : kG kSTR l D cy sad em s0 a0) {ad : Nat → Nat} {ct : Nat → Option va_E} {M : tM} {th : Int32} {sm : Int64} (hm0 : ct 100 = some (oMod ad M th sm)) (hL0 : RepL0 cy ad ct M) (x : Int32) :
    KM l yX11_isCloth [.code yX11_isCloth prog_10_method_7_code 2 (some .boolean)] 1 40 0 0 [.ref (ad 100), .int x] D s0 ad ct (fun v ad' ct' => v = some (.int (if x < 0 ∨ nI (mC M) - 1 < x then 0 else 1)) ∧ ad' = ad ∧ ct' = ct) := by
  refine KM.of G (by decide) (Nat.le_of_ble_eq_true rfl) (Nat.le_of_ble_eq_true rfl) ?_
  intro p e s m args below meth c ls Q hQ X hin hL hW hS
  obtain ⟨hx, hb, hr, hml, hown, hlocks, hts, hq, hK, hI⟩ := X
  replace hL := hL.nrm (l' := [some _, some _]) rfl
  refine lv_iload_n hx hb dX11_isCloth_0 rfl (hL.at 1 rfl) ?_
  refine lv_iconst (v := 0) hx hb dX11_isCloth_1 (by decide) ?_
  refine lv_aload_n hx hb dX11_isCloth_2 rfl (hL.at 0 rfl) ?_
  refine k_get (ci := 13) (C := RX11) (T := TX11) (N := 13) hx hb hts w_RX11 hown hK hW (by first | with_reducible assumption | with_reducible exact up_s | (rw [up_n (by omega)]; first | with_reducible assumption | with_reducible exact up_s | (rw [up_n (by omega)]; first | with_reducible assumption | with_reducible exact up_s | (rw [up_n (by omega)]; first | with_reducible assumption | with_reducible exact up_s | (rw [up_n (by omega)]; first | with_reducible assumption | with_reducible exact up_s | (rw [up_n (by omega)]; first | with_reducible assumption | with_reducible exact up_s | (rw [up_n (by omega)]; first | with_reducible assumption | with_reducible exact up_s | (rw [up_n (by omega)]; first | with_reducible assumption | with_reducible exact up_s | (rw [up_n (by omega)]; first | with_reducible assumption | with_reducible exact up_s | (rw [up_n (by omega)]; first | with_reducible assumption | with_reducible exact up_s | (rw [up_n (by omega)]; first | with_reducible assumption | with_reducible exact up_s | (rw [up_n (by omega)]; first | with_reducible assumption | with_reducible exact up_s)))))))))))) rfl 1 (by decide) (hq _ q872 rfl) (fun _ h9 => h9) (by rfl) dX11_isCloth_3 ?_
  refine k_callV (q := (RJx4a65c, TJx4a65c, 3)) hx hb hml hown hts hK hI hS hW hL.1 hL0.1.1.1 rfl (c_jsize G hL0.1.1.1) (m5 (gT_in q927 rfl) (gT_in q928 rfl) (gT_in q929 rfl) (gT_in q60 rfl) (gT_in q930 rfl)) rfl (show kpar yJx4a65c_size_8abf5 0 from ⟨by decide, by decide, by decide +kernel⟩) ⟨by decide, by decide⟩ (by show _ ≤ (0 : Nat); omega) (by show _ ≤ (0 : Nat); omega) rfl (by first | decide | exact Nat.le_of_ble_eq_true rfl) dX11_isCloth_6 (fun v ad6 ct6 H locs hp hW hS => ?_)
  obtain ⟨rfl, h1, h2⟩ := hp
  rw [h1, h2] at hW
  refine lv_iconst (v := 1) hx hb dX11_isCloth_9 (by decide) ?_
  refine lv_isub hx hb dX11_isCloth_10 ?_
  refine k_callS hx hb hml hown hts hI hS hW hL.1 (r_is G x 0 (nI (mC M) - 1)) (m4 (gT_in q920 rfl) (gT_in q921 rfl) (gT_in q57 rfl) (gT_in q922 rfl)) (show kpar yX11_is 3 from ⟨by decide, by decide, by decide +kernel⟩) ⟨by decide, by decide⟩ (by show _ ≤ (0 : Nat); omega) (by show _ ≤ (0 : Nat); omega) rfl (by first | decide | exact Nat.le_of_ble_eq_true rfl) dX11_isCloth_11 (fun v ad11 ct11 H locs hp hW hS => ?_)
  obtain ⟨rfl, h1, h2⟩ := hp
  rw [h1, h2] at hW
  rw [hQ]
  exact k_zret hx hb hr hlocks (by split <;> rfl) hW hS (by omega) (by omega) dX11_isCloth_14 (⟨rfl, rfl, rfl⟩)

set_option maxHeartbeats 4000000 in
set_option maxRecDepth 100000 in
/-- TailorBenchModel.isPerson  -/
theorem r_isPerson {l : Launch} {D : va_G} {cy : Nat → ClassId} {sad : Nat → Nat} {em : Nat} {s0 : State} {a0 : Array Value} (G : kG kSTR l D cy sad em s0 a0) {ad : Nat → Nat} {ct : Nat → Option va_E} {M : tM} {th : Int32} {sm : Int64} (hm0 : ct 100 = some (oMod ad M th sm)) (hL0 : RepL0 cy ad ct M) (x : Int32) :
    KM l yX11_isPerson [.code yX11_isPerson prog_10_method_10_code 2 (some .boolean)] 1 40 0 0 [.ref (ad 100), .int x] D s0 ad ct (fun v ad' ct' => v = some (.int (if x < 0 ∨ nI (mP M) - 1 < x then 0 else 1)) ∧ ad' = ad ∧ ct' = ct) := by
  refine KM.of G (by decide) (Nat.le_of_ble_eq_true rfl) (Nat.le_of_ble_eq_true rfl) ?_
  intro p e s m args below meth c ls Q hQ X hin hL hW hS
  obtain ⟨hx, hb, hr, hml, hown, hlocks, hts, hq, hK, hI⟩ := X
  replace hL := hL.nrm (l' := [some _, some _]) rfl
  refine lv_iload_n hx hb dX11_isPerson_0 rfl (hL.at 1 rfl) ?_
  refine lv_iconst (v := 0) hx hb dX11_isPerson_1 (by decide) ?_
  refine lv_aload_n hx hb dX11_isPerson_2 rfl (hL.at 0 rfl) ?_
  refine k_get (ci := 13) (C := RX11) (T := TX11) (N := 13) hx hb hts w_RX11 hown hK hW (by first | with_reducible assumption | with_reducible exact up_s | (rw [up_n (by omega)]; first | with_reducible assumption | with_reducible exact up_s | (rw [up_n (by omega)]; first | with_reducible assumption | with_reducible exact up_s | (rw [up_n (by omega)]; first | with_reducible assumption | with_reducible exact up_s | (rw [up_n (by omega)]; first | with_reducible assumption | with_reducible exact up_s | (rw [up_n (by omega)]; first | with_reducible assumption | with_reducible exact up_s | (rw [up_n (by omega)]; first | with_reducible assumption | with_reducible exact up_s | (rw [up_n (by omega)]; first | with_reducible assumption | with_reducible exact up_s | (rw [up_n (by omega)]; first | with_reducible assumption | with_reducible exact up_s | (rw [up_n (by omega)]; first | with_reducible assumption | with_reducible exact up_s | (rw [up_n (by omega)]; first | with_reducible assumption | with_reducible exact up_s | (rw [up_n (by omega)]; first | with_reducible assumption | with_reducible exact up_s)))))))))))) rfl 2 (by decide) (hq _ q873 rfl) (fun _ h9 => h9) (by rfl) dX11_isPerson_3 ?_
  refine k_callV (q := (RJx4a65c, TJx4a65c, 3)) hx hb hml hown hts hK hI hS hW hL.1 hL0.1.2.1.1 rfl (c_jsize G hL0.1.2.1.1) (m5 (gT_in q927 rfl) (gT_in q928 rfl) (gT_in q929 rfl) (gT_in q60 rfl) (gT_in q930 rfl)) rfl (show kpar yJx4a65c_size_8abf5 0 from ⟨by decide, by decide, by decide +kernel⟩) ⟨by decide, by decide⟩ (by show _ ≤ (0 : Nat); omega) (by show _ ≤ (0 : Nat); omega) rfl (by first | decide | exact Nat.le_of_ble_eq_true rfl) dX11_isPerson_6 (fun v ad6 ct6 H locs hp hW hS => ?_)
  obtain ⟨rfl, h1, h2⟩ := hp
  rw [h1, h2] at hW
  refine lv_iconst (v := 1) hx hb dX11_isPerson_9 (by decide) ?_
  refine lv_isub hx hb dX11_isPerson_10 ?_
  refine k_callS hx hb hml hown hts hI hS hW hL.1 (r_is G x 0 (nI (mP M) - 1)) (m4 (gT_in q920 rfl) (gT_in q921 rfl) (gT_in q57 rfl) (gT_in q922 rfl)) (show kpar yX11_is 3 from ⟨by decide, by decide, by decide +kernel⟩) ⟨by decide, by decide⟩ (by show _ ≤ (0 : Nat); omega) (by show _ ≤ (0 : Nat); omega) rfl (by first | decide | exact Nat.le_of_ble_eq_true rfl) dX11_isPerson_11 (fun v ad11 ct11 H locs hp hW hS => ?_)
  obtain ⟨rfl, h1, h2⟩ := hp
  rw [h1, h2] at hW
  rw [hQ]
  exact k_zret hx hb hr hlocks (by split <;> rfl) hW hS (by omega) (by omega) dX11_isPerson_14 (⟨rfl, rfl, rfl⟩)

set_option maxHeartbeats 4000000 in
set_option maxRecDepth 100000 in
/-- TailorBenchModel.isStyle  -/
theorem r_isStyle {l : Launch} {D : va_G} {cy : Nat → ClassId} {sad : Nat → Nat} {em : Nat} {s0 : State} {a0 : Array Value} (G : kG kSTR l D cy sad em s0 a0) {ad : Nat → Nat} {ct : Nat → Option va_E} {M : tM} {th : Int32} {sm : Int64} (hm0 : ct 100 = some (oMod ad M th sm)) (hL0 : RepL0 cy ad ct M) (x : Int32) :
    KM l yX11_isStyle [.code yX11_isStyle prog_10_method_13_code 2 (some .boolean)] 1 40 0 0 [.ref (ad 100), .int x] D s0 ad ct (fun v ad' ct' => v = some (.int (if x < 0 ∨ nI (mS M) - 1 < x then 0 else 1)) ∧ ad' = ad ∧ ct' = ct) := by
  refine KM.of G (by decide) (Nat.le_of_ble_eq_true rfl) (Nat.le_of_ble_eq_true rfl) ?_
  intro p e s m args below meth c ls Q hQ X hin hL hW hS
  obtain ⟨hx, hb, hr, hml, hown, hlocks, hts, hq, hK, hI⟩ := X
  replace hL := hL.nrm (l' := [some _, some _]) rfl
  refine lv_iload_n hx hb dX11_isStyle_0 rfl (hL.at 1 rfl) ?_
  refine lv_iconst (v := 0) hx hb dX11_isStyle_1 (by decide) ?_
  refine lv_aload_n hx hb dX11_isStyle_2 rfl (hL.at 0 rfl) ?_
  refine k_get (ci := 13) (C := RX11) (T := TX11) (N := 13) hx hb hts w_RX11 hown hK hW (by first | with_reducible assumption | with_reducible exact up_s | (rw [up_n (by omega)]; first | with_reducible assumption | with_reducible exact up_s | (rw [up_n (by omega)]; first | with_reducible assumption | with_reducible exact up_s | (rw [up_n (by omega)]; first | with_reducible assumption | with_reducible exact up_s | (rw [up_n (by omega)]; first | with_reducible assumption | with_reducible exact up_s | (rw [up_n (by omega)]; first | with_reducible assumption | with_reducible exact up_s | (rw [up_n (by omega)]; first | with_reducible assumption | with_reducible exact up_s | (rw [up_n (by omega)]; first | with_reducible assumption | with_reducible exact up_s | (rw [up_n (by omega)]; first | with_reducible assumption | with_reducible exact up_s | (rw [up_n (by omega)]; first | with_reducible assumption | with_reducible exact up_s | (rw [up_n (by omega)]; first | with_reducible assumption | with_reducible exact up_s | (rw [up_n (by omega)]; first | with_reducible assumption | with_reducible exact up_s)))))))))))) rfl 3 (by decide) (hq _ q874 rfl) (fun _ h9 => h9) (by rfl) dX11_isStyle_3 ?_
  refine k_callV (q := (RJx4a65c, TJx4a65c, 3)) hx hb hml hown hts hK hI hS hW hL.1 hL0.1.2.2.1.1 rfl (c_jsize G hL0.1.2.2.1.1) (m5 (gT_in q927 rfl) (gT_in q928 rfl) (gT_in q929 rfl) (gT_in q60 rfl) (gT_in q930 rfl)) rfl (show kpar yJx4a65c_size_8abf5 0 from ⟨by decide, by decide, by decide +kernel⟩) ⟨by decide, by decide⟩ (by show _ ≤ (0 : Nat); omega) (by show _ ≤ (0 : Nat); omega) rfl (by first | decide | exact Nat.le_of_ble_eq_true rfl) dX11_isStyle_6 (fun v ad6 ct6 H locs hp hW hS => ?_)
  obtain ⟨rfl, h1, h2⟩ := hp
  rw [h1, h2] at hW
  refine lv_iconst (v := 1) hx hb dX11_isStyle_9 (by decide) ?_
  refine lv_isub hx hb dX11_isStyle_10 ?_
  refine k_callS hx hb hml hown hts hI hS hW hL.1 (r_is G x 0 (nI (mS M) - 1)) (m4 (gT_in q920 rfl) (gT_in q921 rfl) (gT_in q57 rfl) (gT_in q922 rfl)) (show kpar yX11_is 3 from ⟨by decide, by decide, by decide +kernel⟩) ⟨by decide, by decide⟩ (by show _ ≤ (0 : Nat); omega) (by show _ ≤ (0 : Nat); omega) rfl (by first | decide | exact Nat.le_of_ble_eq_true rfl) dX11_isStyle_11 (fun v ad11 ct11 H locs hp hW hS => ?_)
  obtain ⟨rfl, h1, h2⟩ := hp
  rw [h1, h2] at hW
  rw [hQ]
  exact k_zret hx hb hr hlocks (by split <;> rfl) hW hS (by omega) (by omega) dX11_isStyle_14 (⟨rfl, rfl, rfl⟩)

set_option maxHeartbeats 4000000 in
set_option maxRecDepth 100000 in
/-- TailorBenchModel.isOrder  -/
theorem r_isOrder {l : Launch} {D : va_G} {cy : Nat → ClassId} {sad : Nat → Nat} {em : Nat} {s0 : State} {a0 : Array Value} (G : kG kSTR l D cy sad em s0 a0) {ad : Nat → Nat} {ct : Nat → Option va_E} {M : tM} {th : Int32} {sm : Int64} (hm0 : ct 100 = some (oMod ad M th sm)) (hL0 : RepL0 cy ad ct M) (x : Int32) :
    KM l yX11_isOrder [.code yX11_isOrder prog_10_method_25_code 2 (some .boolean)] 1 40 0 0 [.ref (ad 100), .int x] D s0 ad ct (fun v ad' ct' => v = some (.int (if x < 0 ∨ nI (mO M) - 1 < x then 0 else 1)) ∧ ad' = ad ∧ ct' = ct) := by
  refine KM.of G (by decide) (Nat.le_of_ble_eq_true rfl) (Nat.le_of_ble_eq_true rfl) ?_
  intro p e s m args below meth c ls Q hQ X hin hL hW hS
  obtain ⟨hx, hb, hr, hml, hown, hlocks, hts, hq, hK, hI⟩ := X
  replace hL := hL.nrm (l' := [some _, some _]) rfl
  refine lv_iload_n hx hb dX11_isOrder_0 rfl (hL.at 1 rfl) ?_
  refine lv_iconst (v := 0) hx hb dX11_isOrder_1 (by decide) ?_
  refine lv_aload_n hx hb dX11_isOrder_2 rfl (hL.at 0 rfl) ?_
  refine k_get (ci := 13) (C := RX11) (T := TX11) (N := 13) hx hb hts w_RX11 hown hK hW (by first | with_reducible assumption | with_reducible exact up_s | (rw [up_n (by omega)]; first | with_reducible assumption | with_reducible exact up_s | (rw [up_n (by omega)]; first | with_reducible assumption | with_reducible exact up_s | (rw [up_n (by omega)]; first | with_reducible assumption | with_reducible exact up_s | (rw [up_n (by omega)]; first | with_reducible assumption | with_reducible exact up_s | (rw [up_n (by omega)]; first | with_reducible assumption | with_reducible exact up_s | (rw [up_n (by omega)]; first | with_reducible assumption | with_reducible exact up_s | (rw [up_n (by omega)]; first | with_reducible assumption | with_reducible exact up_s | (rw [up_n (by omega)]; first | with_reducible assumption | with_reducible exact up_s | (rw [up_n (by omega)]; first | with_reducible assumption | with_reducible exact up_s | (rw [up_n (by omega)]; first | with_reducible assumption | with_reducible exact up_s | (rw [up_n (by omega)]; first | with_reducible assumption | with_reducible exact up_s)))))))))))) rfl 4 (by decide) (hq _ q875 rfl) (fun _ h9 => h9) (by rfl) dX11_isOrder_3 ?_
  refine k_callV (q := (RJx4a65c, TJx4a65c, 3)) hx hb hml hown hts hK hI hS hW hL.1 hL0.1.2.2.2.1 rfl (c_jsize G hL0.1.2.2.2.1) (m5 (gT_in q927 rfl) (gT_in q928 rfl) (gT_in q929 rfl) (gT_in q60 rfl) (gT_in q930 rfl)) rfl (show kpar yJx4a65c_size_8abf5 0 from ⟨by decide, by decide, by decide +kernel⟩) ⟨by decide, by decide⟩ (by show _ ≤ (0 : Nat); omega) (by show _ ≤ (0 : Nat); omega) rfl (by first | decide | exact Nat.le_of_ble_eq_true rfl) dX11_isOrder_6 (fun v ad6 ct6 H locs hp hW hS => ?_)
  obtain ⟨rfl, h1, h2⟩ := hp
  rw [h1, h2] at hW
  refine lv_iconst (v := 1) hx hb dX11_isOrder_9 (by decide) ?_
  refine lv_isub hx hb dX11_isOrder_10 ?_
  refine k_callS hx hb hml hown hts hI hS hW hL.1 (r_is G x 0 (nI (mO M) - 1)) (m4 (gT_in q920 rfl) (gT_in q921 rfl) (gT_in q57 rfl) (gT_in q922 rfl)) (show kpar yX11_is 3 from ⟨by decide, by decide, by decide +kernel⟩) ⟨by decide, by decide⟩ (by show _ ≤ (0 : Nat); omega) (by show _ ≤ (0 : Nat); omega) rfl (by first | decide | exact Nat.le_of_ble_eq_true rfl) dX11_isOrder_11 (fun v ad11 ct11 H locs hp hW hS => ?_)
  obtain ⟨rfl, h1, h2⟩ := hp
  rw [h1, h2] at hW
  rw [hQ]
  exact k_zret hx hb hr hlocks (by split <;> rfl) hW hS (by omega) (by omega) dX11_isOrder_14 (⟨rfl, rfl, rfl⟩)

set_option maxHeartbeats 4000000 in
set_option maxRecDepth 100000 in
/-- TailorBenchModel.isHand  -/
theorem r_isHand {l : Launch} {D : va_G} {cy : Nat → ClassId} {sad : Nat → Nat} {em : Nat} {s0 : State} {a0 : Array Value} (G : kG kSTR l D cy sad em s0 a0) {ad : Nat → Nat} {ct : Nat → Option va_E} {M : tM} {th : Int32} {sm : Int64} (hm0 : ct 100 = some (oMod ad M th sm)) (x : Int32) :
    KM l yX11_isHand [.code yX11_isHand prog_10_method_30_code 2 (some .boolean)] 1 40 0 0 [.ref (ad 100), .int x] D s0 ad ct (fun v ad' ct' => v = some (.int (if x < 0 ∨ nI (mH M) - 1 < x then 0 else 1)) ∧ ad' = ad ∧ ct' = ct) := by
  refine KM.of G (by decide) (Nat.le_of_ble_eq_true rfl) (Nat.le_of_ble_eq_true rfl) ?_
  intro p e s m args below meth c ls Q hQ X hin hL hW hS
  obtain ⟨hx, hb, hr, hml, hown, hlocks, hts, hq, hK, hI⟩ := X
  replace hL := hL.nrm (l' := [some _, some _]) rfl
  refine lv_iload_n hx hb dX11_isHand_0 rfl (hL.at 1 rfl) ?_
  refine lv_iconst (v := 0) hx hb dX11_isHand_1 (by decide) ?_
  refine lv_aload_n hx hb dX11_isHand_2 rfl (hL.at 0 rfl) ?_
  refine k_get (ci := 13) (C := RX11) (T := TX11) (N := 13) hx hb hts w_RX11 hown hK hW (by first | with_reducible assumption | with_reducible exact up_s | (rw [up_n (by omega)]; first | with_reducible assumption | with_reducible exact up_s | (rw [up_n (by omega)]; first | with_reducible assumption | with_reducible exact up_s | (rw [up_n (by omega)]; first | with_reducible assumption | with_reducible exact up_s | (rw [up_n (by omega)]; first | with_reducible assumption | with_reducible exact up_s | (rw [up_n (by omega)]; first | with_reducible assumption | with_reducible exact up_s | (rw [up_n (by omega)]; first | with_reducible assumption | with_reducible exact up_s | (rw [up_n (by omega)]; first | with_reducible assumption | with_reducible exact up_s | (rw [up_n (by omega)]; first | with_reducible assumption | with_reducible exact up_s | (rw [up_n (by omega)]; first | with_reducible assumption | with_reducible exact up_s | (rw [up_n (by omega)]; first | with_reducible assumption | with_reducible exact up_s | (rw [up_n (by omega)]; first | with_reducible assumption | with_reducible exact up_s)))))))))))) rfl 7 (by decide) (hq _ q878 rfl) (fun _ h9 => h9) (by rfl) dX11_isHand_3 ?_
  refine lv_iconst (v := 1) hx hb dX11_isHand_6 (by decide) ?_
  refine lv_isub hx hb dX11_isHand_7 ?_
  refine k_callS hx hb hml hown hts hI hS hW hL.1 (r_is G x 0 (nI (mH M) - 1)) (m4 (gT_in q920 rfl) (gT_in q921 rfl) (gT_in q57 rfl) (gT_in q922 rfl)) (show kpar yX11_is 3 from ⟨by decide, by decide, by decide +kernel⟩) ⟨by decide, by decide⟩ (by show _ ≤ (0 : Nat); omega) (by show _ ≤ (0 : Nat); omega) rfl (by first | decide | exact Nat.le_of_ble_eq_true rfl) dX11_isHand_8 (fun v ad8 ct8 H locs hp hW hS => ?_)
  obtain ⟨rfl, h1, h2⟩ := hp
  rw [h1, h2] at hW
  rw [hQ]
  exact k_zret hx hb hr hlocks (by split <;> rfl) hW hS (by omega) (by omega) dX11_isHand_11 (⟨rfl, rfl, rfl⟩)

set_option maxHeartbeats 4000000 in
set_option maxRecDepth 100000 in
/-- TailorBenchModel.isPart  -/
theorem r_isPart {l : Launch} {D : va_G} {cy : Nat → ClassId} {sad : Nat → Nat} {em : Nat} {s0 : State} {a0 : Array Value} (G : kG kSTR l D cy sad em s0 a0) {ad : Nat → Nat} {ct : Nat → Option va_E} (x : Int32) :
    KM l yX11_isPart [.code yX11_isPart prog_10_method_14_code 1 (some .boolean)] 1 40 0 0 [.int x] D s0 ad ct (fun v ad' ct' => v = some (.int (if x < 0 ∨ (x / 10 < 0 ∨ 3 < x / 10) ∨ (x - x / 10 * 10 < 1 ∨ 8 < x - x / 10 * 10) then 0 else 1)) ∧ ad' = ad ∧ ct' = ct) := by
  refine KM.of G (by decide) (Nat.le_of_ble_eq_true rfl) (Nat.le_of_ble_eq_true rfl) ?_
  intro p e s m args below meth c ls Q hQ X hin hL hW hS
  obtain ⟨hx, hb, hr, hml, hown, hlocks, hts, hq, hK, hI⟩ := X
  replace hL := hL.nrm (l' := [some _]) rfl
  refine lv_iload_n hx hb dX11_isPart_0 rfl (hL.at 0 rfl) ?_
  refine lv_if_lt (tgt := 33) hx hb dX11_isPart_1 (by decide) (fun c1 => ?_) (fun c1 => ?_)
  · try dsimp only at c1
    refine lv_iconst (v := 0) hx hb dX11_isPart_33 (by decide) ?_
    rw [hQ]
    exact k_zret hx hb hr hlocks rfl hW hS (by omega) (by omega) dX11_isPart_34 (⟨by first | rw [if_pos (Or.inl c1)] | rw [if_pos (Or.inr (Or.inl c13))] | rw [if_pos (Or.inr (Or.inr c26))] | rw [if_neg (fun z => z.elim c1 (fun z => z.elim c13 c26))], rfl, rfl⟩)
  · try dsimp only at c1
    refine lv_iload_n hx hb dX11_isPart_4 rfl (hL.at 0 rfl) ?_
    refine lv_bipush (v := 10) hx hb dX11_isPart_5 (by decide) ?_
    refine lv_idiv hx hb dX11_isPart_7 (by decide) ?_
    refine lv_iconst (v := 0) hx hb dX11_isPart_8 (by decide) ?_
    refine lv_iconst (v := 3) hx hb dX11_isPart_9 (by decide) ?_
    refine k_callS hx hb hml hown hts hI hS hW hL.1 (r_is G (x / 10) 0 3) (m4 (gT_in q920 rfl) (gT_in q921 rfl) (gT_in q57 rfl) (gT_in q922 rfl)) (show kpar yX11_is 3 from ⟨by decide, by decide, by decide +kernel⟩) ⟨by decide, by decide⟩ (by show _ ≤ (0 : Nat); omega) (by show _ ≤ (0 : Nat); omega) rfl (by first | decide | exact Nat.le_of_ble_eq_true rfl) dX11_isPart_10 (fun v ad10 ct10 H locs hp hW hS => ?_)
    obtain ⟨rfl, h1, h2⟩ := hp
    rw [h1, h2] at hW
    refine lv_if_eq (tgt := 33) hx hb dX11_isPart_13 (by decide) (fun c13 => ?_) (fun c13 => ?_)
    · try simp only [b2_eq, b3_eq, Decidable.not_not] at c13
      try dsimp only at c13
      refine lv_iconst (v := 0) hx hb dX11_isPart_33 (by decide) ?_
      rw [hQ]
      exact k_zret hx hb hr hlocks rfl hW hS (by omega) (by omega) dX11_isPart_34 (⟨by first | rw [if_pos (Or.inl c1)] | rw [if_pos (Or.inr (Or.inl c13))] | rw [if_pos (Or.inr (Or.inr c26))] | rw [if_neg (fun z => z.elim c1 (fun z => z.elim c13 c26))], rfl, rfl⟩)
    · try simp only [b2_eq, b3_eq, Decidable.not_not] at c13
      try dsimp only at c13
      refine lv_iload_n hx hb dX11_isPart_16 rfl (hL.at 0 rfl) ?_
      refine lv_bipush (v := 10) hx hb dX11_isPart_17 (by decide) ?_
      refine lv_irem hx hb dX11_isPart_19 (by decide) ?_
      refine lv_iconst (v := 1) hx hb dX11_isPart_20 (by decide) ?_
      refine lv_bipush (v := 8) hx hb dX11_isPart_21 (by decide) ?_
      refine k_callS hx hb hml hown hts hI hS hW hL.1 (r_is G (x - x / 10 * 10) 1 8) (m4 (gT_in q920 rfl) (gT_in q921 rfl) (gT_in q57 rfl) (gT_in q922 rfl)) (show kpar yX11_is 3 from ⟨by decide, by decide, by decide +kernel⟩) ⟨by decide, by decide⟩ (by show _ ≤ (0 : Nat); omega) (by show _ ≤ (0 : Nat); omega) rfl (by first | decide | exact Nat.le_of_ble_eq_true rfl) dX11_isPart_23 (fun v ad23 ct23 H locs hp hW hS => ?_)
      obtain ⟨rfl, h1, h2⟩ := hp
      rw [h1, h2] at hW
      refine lv_if_eq (tgt := 33) hx hb dX11_isPart_26 (by decide) (fun c26 => ?_) (fun c26 => ?_)
      · try simp only [b2_eq, b3_eq, Decidable.not_not] at c26
        try dsimp only at c26
        refine lv_iconst (v := 0) hx hb dX11_isPart_33 (by decide) ?_
        rw [hQ]
        exact k_zret hx hb hr hlocks rfl hW hS (by omega) (by omega) dX11_isPart_34 (⟨by first | rw [if_pos (Or.inl c1)] | rw [if_pos (Or.inr (Or.inl c13))] | rw [if_pos (Or.inr (Or.inr c26))] | rw [if_neg (fun z => z.elim c1 (fun z => z.elim c13 c26))], rfl, rfl⟩)
      · try simp only [b2_eq, b3_eq, Decidable.not_not] at c26
        try dsimp only at c26
        refine lv_iconst (v := 1) hx hb dX11_isPart_29 (by decide) ?_
        refine lv_goto (tgt := 34) hx hb dX11_isPart_30 (by decide) ?_
        rw [hQ]
        exact k_zret hx hb hr hlocks rfl hW hS (by omega) (by omega) dX11_isPart_34 (⟨by first | rw [if_pos (Or.inl c1)] | rw [if_pos (Or.inr (Or.inl c13))] | rw [if_pos (Or.inr (Or.inr c26))] | rw [if_neg (fun z => z.elim c1 (fun z => z.elim c13 c26))], rfl, rfl⟩)

set_option maxHeartbeats 4000000 in
set_option maxRecDepth 100000 in
/-- TailorBenchModel.isIn  -/
theorem r_isIn {l : Launch} {D : va_G} {cy : Nat → ClassId} {sad : Nat → Nat} {em : Nat} {s0 : State} {a0 : Array Value} (G : kG kSTR l D cy sad em s0 a0) {ad : Nat → Nat} {ct : Nat → Option va_E} {M : tM} {th : Int32} {sm : Int64} (hm0 : ct 100 = some (oMod ad M th sm)) (hL0 : RepL0 cy ad ct M) (ho : okM M) {i : Nat} (hi : i < mO M) {st : Nat} (hst : st < 6) :
    KM l yX11_isIn [.code yX11_isIn prog_10_method_26_code 3 (some .boolean)] 3 90 0 0 [.ref (ad 100), .int (nI i), .int (nI st)] D s0 ad ct (fun v ad' ct' => v = some (.int (if oState (mod M i) = st then 1 else 0)) ∧ ad' = ad ∧ ct' = ct) := by
  refine KM.of G (by decide) (Nat.le_of_ble_eq_true rfl) (Nat.le_of_ble_eq_true rfl) ?_
  intro p e s m args below meth c ls Q hQ X hin hL hW hS
  obtain ⟨hx, hb, hr, hml, hown, hlocks, hts, hq, hK, hI⟩ := X
  have hbn := ho.1
  have hoi := (rOrd hL0 ho hi).1
  have ost := (ho.2.2.2.2.2 i hi).2.2.2
  replace hL := hL.nrm (l' := [some _, some _, some _]) rfl
  refine lv_aload_n hx hb dX11_isIn_0 rfl (hL.at 0 rfl) ?_
  refine k_get (ci := 13) (C := RX11) (T := TX11) (N := 13) hx hb hts w_RX11 hown hK hW (by first | with_reducible assumption | with_reducible exact up_s | (rw [up_n (by omega)]; first | with_reducible assumption | with_reducible exact up_s | (rw [up_n (by omega)]; first | with_reducible assumption | with_reducible exact up_s | (rw [up_n (by omega)]; first | with_reducible assumption | with_reducible exact up_s | (rw [up_n (by omega)]; first | with_reducible assumption | with_reducible exact up_s | (rw [up_n (by omega)]; first | with_reducible assumption | with_reducible exact up_s | (rw [up_n (by omega)]; first | with_reducible assumption | with_reducible exact up_s | (rw [up_n (by omega)]; first | with_reducible assumption | with_reducible exact up_s | (rw [up_n (by omega)]; first | with_reducible assumption | with_reducible exact up_s | (rw [up_n (by omega)]; first | with_reducible assumption | with_reducible exact up_s | (rw [up_n (by omega)]; first | with_reducible assumption | with_reducible exact up_s | (rw [up_n (by omega)]; first | with_reducible assumption | with_reducible exact up_s)))))))))))) rfl 4 (by decide) (hq _ q875 rfl) (fun _ h9 => h9) (by rfl) dX11_isIn_1 ?_
  refine lv_iload_n hx hb dX11_isIn_4 rfl (hL.at 1 rfl) ?_
  refine k_callV (q := (RJx4a65c, TJx4a65c, 3)) hx hb hml hown hts hK hI hS hW hL.1 hL0.1.2.2.2.1 rfl (c_jgetL G hL0.1.2.2.2 hi (by omega)) (m5 (gT_in q1030 rfl) (gT_in q1031 rfl) (gT_in q1032 rfl) (gT_in q60 rfl) (gT_in q1033 rfl)) rfl (show kpar yJx4a65c_get_915e3 1 from ⟨by decide, by decide, by decide +kernel⟩) ⟨by decide, by decide⟩ (by show _ ≤ (0 : Nat); omega) (by show _ ≤ (0 : Nat); omega) rfl (by first | decide | exact Nat.le_of_ble_eq_true rfl) dX11_isIn_5 (fun v ad5 ct5 H locs hp hW hS => ?_)
  obtain ⟨rfl, h1, h2⟩ := hp
  rw [h1, h2] at hW
  refine k_castS (q := (RX10, TX10, 10)) hx hb hown (hq _ q1123 rfl) hK hW (by first | with_reducible assumption | with_reducible exact up_s | (rw [up_n (by omega)]; first | with_reducible assumption | with_reducible exact up_s | (rw [up_n (by omega)]; first | with_reducible assumption | with_reducible exact up_s | (rw [up_n (by omega)]; first | with_reducible assumption | with_reducible exact up_s | (rw [up_n (by omega)]; first | with_reducible assumption | with_reducible exact up_s | (rw [up_n (by omega)]; first | with_reducible assumption | with_reducible exact up_s | (rw [up_n (by omega)]; first | with_reducible assumption | with_reducible exact up_s | (rw [up_n (by omega)]; first | with_reducible assumption | with_reducible exact up_s | (rw [up_n (by omega)]; first | with_reducible assumption | with_reducible exact up_s | (rw [up_n (by omega)]; first | with_reducible assumption | with_reducible exact up_s | (rw [up_n (by omega)]; first | with_reducible assumption | with_reducible exact up_s | (rw [up_n (by omega)]; first | with_reducible assumption | with_reducible exact up_s)))))))))))) rfl dX11_isIn_8 ?_
  refine k_getN (ci := 12) (C := RX10) (T := TX10) (N := 10) hx hb hts w_RX10 hown hK hW (by first | with_reducible assumption | with_reducible exact up_s | (rw [up_n (by omega)]; first | with_reducible assumption | with_reducible exact up_s | (rw [up_n (by omega)]; first | with_reducible assumption | with_reducible exact up_s | (rw [up_n (by omega)]; first | with_reducible assumption | with_reducible exact up_s | (rw [up_n (by omega)]; first | with_reducible assumption | with_reducible exact up_s | (rw [up_n (by omega)]; first | with_reducible assumption | with_reducible exact up_s | (rw [up_n (by omega)]; first | with_reducible assumption | with_reducible exact up_s | (rw [up_n (by omega)]; first | with_reducible assumption | with_reducible exact up_s | (rw [up_n (by omega)]; first | with_reducible assumption | with_reducible exact up_s | (rw [up_n (by omega)]; first | with_reducible assumption | with_reducible exact up_s | (rw [up_n (by omega)]; first | with_reducible assumption | with_reducible exact up_s | (rw [up_n (by omega)]; first | with_reducible assumption | with_reducible exact up_s)))))))))))) rfl 3 (by decide) (hq _ q1146 rfl) (fun _ h9 => h9) (by rfl) dX11_isIn_11 ?_
  refine lv_iload_n hx hb dX11_isIn_14 rfl (hL.at 2 rfl) ?_
  refine lv_icmp_ne (tgt := 22) hx hb dX11_isIn_15 (by decide) (fun c15 => ?_) (fun c15 => ?_)
  · try dsimp only at c15
    have hne : ¬ oState (mod M i) = st := fun z => c15 (by rw [z])
    refine lv_iconst (v := 0) hx hb dX11_isIn_22 (by decide) ?_
    rw [hQ]
    exact k_zret hx hb hr hlocks rfl hW hS (by omega) (by omega) dX11_isIn_23 (⟨by first | rw [if_pos hne] | rw [if_neg hne], rfl, rfl⟩)
  · try dsimp only at c15
    have hne : oState (mod M i) = st := (nI_eq (by omega) (by omega)).mp (by first | exact c15 | exact Decidable.not_not.mp c15)
    refine lv_iconst (v := 1) hx hb dX11_isIn_18 (by decide) ?_
    refine lv_goto (tgt := 23) hx hb dX11_isIn_19 (by decide) ?_
    rw [hQ]
    exact k_zret hx hb hr hlocks rfl hW hS (by omega) (by omega) dX11_isIn_23 (⟨by first | rw [if_pos hne] | rw [if_neg hne], rfl, rfl⟩)

set_option maxHeartbeats 4000000 in
set_option maxRecDepth 100000 in
/-- TailorBenchModel.part  -/
theorem r_part {l : Launch} {D : va_G} {cy : Nat → ClassId} {sad : Nat → Nat} {em : Nat} {s0 : State} {a0 : Array Value} (G : kG kSTR l D cy sad em s0 a0) {ad : Nat → Nat} {ct : Nat → Option va_E} {M : tM} {th : Int32} {sm : Int64} (hm0 : ct 100 = some (oMod ad M th sm)) (hL0 : RepL0 cy ad ct M) (ho : okM M) {i : Nat} (hi : i < mP M) {part : Nat} (hpt : okPart part) :
    KM l yX11_part [.code yX11_part prog_10_method_17_code 3 (some .double)] 3 90 0 0 [.ref (ad 100), .int (nI i), .int (nI part)] D s0 ad ct (fun v ad' ct' => v = some (.double (fPart (mpe M i) part)) ∧ ad' = ad ∧ ct' = ct) := by
  refine KM.of G (by decide) (Nat.le_of_ble_eq_true rfl) (Nat.le_of_ble_eq_true rfl) ?_
  intro p e s m args below meth c ls Q hQ X hin hL hW hS
  obtain ⟨hx, hb, hr, hml, hown, hlocks, hts, hq, hK, hI⟩ := X
  have hbn := ho.1
  have hpi := hL0.2.2.2.1 i hi
  have hpt1 := hpt.1
  replace hL := hL.nrm (l' := [some _, some _, some _]) rfl
  refine lv_aload_n hx hb dX11_part_0 rfl (hL.at 0 rfl) ?_
  refine k_get (ci := 13) (C := RX11) (T := TX11) (N := 13) hx hb hts w_RX11 hown hK hW (by first | with_reducible assumption | with_reducible exact up_s | (rw [up_n (by omega)]; first | with_reducible assumption | with_reducible exact up_s | (rw [up_n (by omega)]; first | with_reducible assumption | with_reducible exact up_s | (rw [up_n (by omega)]; first | with_reducible assumption | with_reducible exact up_s | (rw [up_n (by omega)]; first | with_reducible assumption | with_reducible exact up_s | (rw [up_n (by omega)]; first | with_reducible assumption | with_reducible exact up_s | (rw [up_n (by omega)]; first | with_reducible assumption | with_reducible exact up_s | (rw [up_n (by omega)]; first | with_reducible assumption | with_reducible exact up_s | (rw [up_n (by omega)]; first | with_reducible assumption | with_reducible exact up_s | (rw [up_n (by omega)]; first | with_reducible assumption | with_reducible exact up_s | (rw [up_n (by omega)]; first | with_reducible assumption | with_reducible exact up_s | (rw [up_n (by omega)]; first | with_reducible assumption | with_reducible exact up_s)))))))))))) rfl 2 (by decide) (hq _ q873 rfl) (fun _ h9 => h9) (by rfl) dX11_part_1 ?_
  refine lv_iload_n hx hb dX11_part_4 rfl (hL.at 1 rfl) ?_
  refine k_callV (q := (RJx4a65c, TJx4a65c, 3)) hx hb hml hown hts hK hI hS hW hL.1 hL0.1.2.1.1 rfl (c_jgetL G hL0.1.2.1 hi (by omega)) (m5 (gT_in q1030 rfl) (gT_in q1031 rfl) (gT_in q1032 rfl) (gT_in q60 rfl) (gT_in q1033 rfl)) rfl (show kpar yJx4a65c_get_915e3 1 from ⟨by decide, by decide, by decide +kernel⟩) ⟨by decide, by decide⟩ (by show _ ≤ (0 : Nat); omega) (by show _ ≤ (0 : Nat); omega) rfl (by first | decide | exact Nat.le_of_ble_eq_true rfl) dX11_part_5 (fun v ad5 ct5 H locs hp hW hS => ?_)
  obtain ⟨rfl, h1, h2⟩ := hp
  rw [h1, h2] at hW
  refine k_castI hx hb hown (hq _ q1061 rfl) hK hW (by first | with_reducible assumption | with_reducible exact up_s | (rw [up_n (by omega)]; first | with_reducible assumption | with_reducible exact up_s | (rw [up_n (by omega)]; first | with_reducible assumption | with_reducible exact up_s | (rw [up_n (by omega)]; first | with_reducible assumption | with_reducible exact up_s | (rw [up_n (by omega)]; first | with_reducible assumption | with_reducible exact up_s | (rw [up_n (by omega)]; first | with_reducible assumption | with_reducible exact up_s | (rw [up_n (by omega)]; first | with_reducible assumption | with_reducible exact up_s | (rw [up_n (by omega)]; first | with_reducible assumption | with_reducible exact up_s | (rw [up_n (by omega)]; first | with_reducible assumption | with_reducible exact up_s | (rw [up_n (by omega)]; first | with_reducible assumption | with_reducible exact up_s | (rw [up_n (by omega)]; first | with_reducible assumption | with_reducible exact up_s | (rw [up_n (by omega)]; first | with_reducible assumption | with_reducible exact up_s)))))))))))) dX11_part_8 ?_
  refine lv_iload_n hx hb dX11_part_11 rfl (hL.at 2 rfl) ?_
  refine lv_bipush (v := 10) hx hb dX11_part_12 (by decide) ?_
  refine lv_idiv hx hb dX11_part_14 (by decide) ?_
  rw [fI_div10 (by omega)]
  refine k_iald hx hb hK hW (by first | with_reducible assumption | with_reducible exact up_s | (rw [up_n (by omega)]; first | with_reducible assumption | with_reducible exact up_s | (rw [up_n (by omega)]; first | with_reducible assumption | with_reducible exact up_s | (rw [up_n (by omega)]; first | with_reducible assumption | with_reducible exact up_s | (rw [up_n (by omega)]; first | with_reducible assumption | with_reducible exact up_s | (rw [up_n (by omega)]; first | with_reducible assumption | with_reducible exact up_s | (rw [up_n (by omega)]; first | with_reducible assumption | with_reducible exact up_s | (rw [up_n (by omega)]; first | with_reducible assumption | with_reducible exact up_s | (rw [up_n (by omega)]; first | with_reducible assumption | with_reducible exact up_s | (rw [up_n (by omega)]; first | with_reducible assumption | with_reducible exact up_s | (rw [up_n (by omega)]; first | with_reducible assumption | with_reducible exact up_s | (rw [up_n (by omega)]; first | with_reducible assumption | with_reducible exact up_s)))))))))))) (part / 10) (by omega) (by omega) rfl dX11_part_15 ?_
  rw [rkI (by omega)]
  refine lv_iload_n hx hb dX11_part_16 rfl (hL.at 2 rfl) ?_
  refine lv_bipush (v := 10) hx hb dX11_part_17 (by decide) ?_
  refine lv_irem hx hb dX11_part_19 (by decide) ?_
  rw [fI_rem10 (by omega)]
  refine lv_imul hx hb dX11_part_20 ?_
  rw [pk_mul]
  refine lv_i2d hx hb dX11_part_21 ?_
  refine lv_ldc2d hx hb hown (hq _ q1225 rfl) dX11_part_22 ?_
  refine lv_ddiv hx hb dX11_part_25 (fPart_no (ho.2.2.1 i hi) hpt) ?_
  rw [hQ]
  exact k_dret hx hb hr hlocks hW hS (by omega) (by omega) dX11_part_26 (⟨rfl, rfl, rfl⟩)

set_option maxHeartbeats 4000000 in
set_option maxRecDepth 100000 in
/-- TailorBenchModel.body  -/
theorem r_body {l : Launch} {D : va_G} {cy : Nat → ClassId} {sad : Nat → Nat} {em : Nat} {s0 : State} {a0 : Array Value} (G : kG kSTR l D cy sad em s0 a0) {ad : Nat → Nat} {ct : Nat → Option va_E} {M : tM} {th : Int32} {sm : Int64} (hm0 : ct 100 = some (oMod ad M th sm)) (hL0 : RepL0 cy ad ct M) (ho : okM M) {i : Nat} (hi : i < mP M) {kp : Nat} {pc : tPc} (hkp : ct kp = some (.inl (cy 1, 4, aI (fI4 (fPc4 pc))))) (hpc : okPc pc)  :
    KM l yX11_body [.code yX11_body prog_10_method_18_code 3 (some .double)] 4 120 0 0 [.ref (ad 100), .int (nI i), .ref (ad kp)] D s0 ad ct (fun v ad' ct' => v = some (.double (fBody (mpe M i) pc)) ∧ ad' = ad ∧ ct' = ct) := by
  refine KM.of G (by decide) (Nat.le_of_ble_eq_true rfl) (Nat.le_of_ble_eq_true rfl) ?_
  intro p e s m args below meth c ls Q hQ X hin hL hW hS
  obtain ⟨hx, hb, hr, hml, hown, hlocks, hts, hq, hK, hI⟩ := X
  replace hL := hL.nrm (l' := [some _, some _, some _]) rfl
  refine lv_aload_n hx hb dX11_body_0 rfl (hL.at 0 rfl) ?_
  refine lv_iload_n hx hb dX11_body_1 rfl (hL.at 1 rfl) ?_
  refine lv_aload_n hx hb dX11_body_2 rfl (hL.at 2 rfl) ?_
  refine lv_iconst (v := 0) hx hb dX11_body_3 (by decide) ?_
  refine k_iald hx hb hK hW (by first | with_reducible assumption | with_reducible exact up_s | (rw [up_n (by omega)]; first | with_reducible assumption | with_reducible exact up_s | (rw [up_n (by omega)]; first | with_reducible assumption | with_reducible exact up_s | (rw [up_n (by omega)]; first | with_reducible assumption | with_reducible exact up_s | (rw [up_n (by omega)]; first | with_reducible assumption | with_reducible exact up_s | (rw [up_n (by omega)]; first | with_reducible assumption | with_reducible exact up_s | (rw [up_n (by omega)]; first | with_reducible assumption | with_reducible exact up_s | (rw [up_n (by omega)]; first | with_reducible assumption | with_reducible exact up_s | (rw [up_n (by omega)]; first | with_reducible assumption | with_reducible exact up_s | (rw [up_n (by omega)]; first | with_reducible assumption | with_reducible exact up_s | (rw [up_n (by omega)]; first | with_reducible assumption | with_reducible exact up_s | (rw [up_n (by omega)]; first | with_reducible assumption | with_reducible exact up_s)))))))))))) 0 (by omega) (by omega) rfl dX11_body_4 ?_
  rw [show fI4 (fPc4 pc) 0 = nI pc.1 from rfl]
  refine k_callV (q := (RX11, TX11, 13)) hx hb hml hown hts hK hI hS hW hL.1 (by first | with_reducible assumption | with_reducible exact up_s | (rw [up_n (by omega)]; first | with_reducible assumption | with_reducible exact up_s | (rw [up_n (by omega)]; first | with_reducible assumption | with_reducible exact up_s | (rw [up_n (by omega)]; first | with_reducible assumption | with_reducible exact up_s | (rw [up_n (by omega)]; first | with_reducible assumption | with_reducible exact up_s | (rw [up_n (by omega)]; first | with_reducible assumption | with_reducible exact up_s | (rw [up_n (by omega)]; first | with_reducible assumption | with_reducible exact up_s | (rw [up_n (by omega)]; first | with_reducible assumption | with_reducible exact up_s | (rw [up_n (by omega)]; first | with_reducible assumption | with_reducible exact up_s | (rw [up_n (by omega)]; first | with_reducible assumption | with_reducible exact up_s | (rw [up_n (by omega)]; first | with_reducible assumption | with_reducible exact up_s | (rw [up_n (by omega)]; first | with_reducible assumption | with_reducible exact up_s)))))))))))) rfl (r_part G hm0 hL0 ho hi hpc.1) (m5 (gT_in q1221 rfl) (gT_in q1223 rfl) (gT_in q39 rfl) (gT_in q57 rfl) (gT_in q1224 rfl)) rfl (show kpar yX11_part 2 from ⟨by decide, by decide, by decide +kernel⟩) ⟨by decide, by decide⟩ (by show _ ≤ (0 : Nat); omega) (by show _ ≤ (0 : Nat); omega) rfl (by first | decide | exact Nat.le_of_ble_eq_true rfl) dX11_body_5 (fun v ad5 ct5 H locs hp hW hS => ?_)
  obtain ⟨rfl, h1, h2⟩ := hp
  rw [h1, h2] at hW
  refine lv_aload_n hx hb dX11_body_8 rfl (hL.at 2 rfl) ?_
  refine lv_iconst (v := 2) hx hb dX11_body_9 (by decide) ?_
  refine k_iald hx hb hK hW (by first | with_reducible assumption | with_reducible exact up_s | (rw [up_n (by omega)]; first | with_reducible assumption | with_reducible exact up_s | (rw [up_n (by omega)]; first | with_reducible assumption | with_reducible exact up_s | (rw [up_n (by omega)]; first | with_reducible assumption | with_reducible exact up_s | (rw [up_n (by omega)]; first | with_reducible assumption | with_reducible exact up_s | (rw [up_n (by omega)]; first | with_reducible assumption | with_reducible exact up_s | (rw [up_n (by omega)]; first | with_reducible assumption | with_reducible exact up_s | (rw [up_n (by omega)]; first | with_reducible assumption | with_reducible exact up_s | (rw [up_n (by omega)]; first | with_reducible assumption | with_reducible exact up_s | (rw [up_n (by omega)]; first | with_reducible assumption | with_reducible exact up_s | (rw [up_n (by omega)]; first | with_reducible assumption | with_reducible exact up_s | (rw [up_n (by omega)]; first | with_reducible assumption | with_reducible exact up_s)))))))))))) 2 (by omega) (by omega) rfl dX11_body_10 ?_
  rw [show fI4 (fPc4 pc) 2 = nI pc.2.2.1 from rfl]
  refine lv_i2d hx hb dX11_body_11 ?_
  refine lv_ldc2d hx hb hown (hq _ q1226 rfl) dX11_body_12 ?_
  refine lv_ddiv hx hb dX11_body_15 (vf_of (dP_ease hpc.2.2.1).nn) ?_
  refine lv_dadd hx hb dX11_body_16 (fBody_no (ho.2.2.1 i hi) hpc) ?_
  rw [hQ]
  exact k_dret hx hb hr hlocks hW hS (by omega) (by omega) dX11_body_17 (⟨rfl, rfl, rfl⟩)

set_option maxHeartbeats 4000000 in
set_option maxRecDepth 100000 in
/-- TailorBenchModel.body  -/
theorem r_bodyO {l : Launch} {D : va_G} {cy : Nat → ClassId} {sad : Nat → Nat} {em : Nat} {s0 : State} {a0 : Array Value} (G : kG kSTR l D cy sad em s0 a0) {ad : Nat → Nat} {ct : Nat → Option va_E} {M : tM} {th : Int32} {sm : Int64} (hm0 : ct 100 = some (oMod ad M th sm)) (hL0 : RepL0 cy ad ct M) (ho : okM M) {i : Nat} (hi : i < mO M) {j : Nat} (hj : j < (mst M (oS (mod M i))).1) {x1 x2 x3 x4 x5 : Int32} {x6 x7 : UInt64} {x8 : Nat} {ko : Nat} (hko : ct ko = some (.inr (12, [.int (nI (oP (mod M i))), .int (nI (oS (mod M i))), .int x1, .int x2, .int x3, .int x4, .int x5, .double x6, .double x7, .ref x8]))) :
    KM l yX11_body_ [.code yX11_body_ prog_10_method_19_code 3 (some .double)] 5 150 0 0 [.ref (ad 100), .ref (ad ko), .int (nI j)] D s0 ad ct (fun v ad' ct' => v = some (.double (fBody (mpe M (oP (mod M i))) ((mst M (oS (mod M i))).2.1 j))) ∧ ad' = ad ∧ ct' = ct) := by
  refine KM.of G (by decide) (Nat.le_of_ble_eq_true rfl) (Nat.le_of_ble_eq_true rfl) ?_
  intro p e s m args below meth c ls Q hQ X hin hL hW hS
  obtain ⟨hx, hb, hr, hml, hown, hlocks, hts, hq, hK, hI⟩ := X
  have hbn := ho.1
  obtain ⟨u1, u2, u3, u4, u5, u6, u7, u8, u9, u10⟩ := rOrd hL0 ho hi
  replace hL := hL.nrm (l' := [some _, some _, some _]) rfl
  refine lv_aload_n hx hb dX11_body__0 rfl (hL.at 0 rfl) ?_
  refine lv_aload_n hx hb dX11_body__1 rfl (hL.at 1 rfl) ?_
  refine k_getN (ci := 12) (C := RX10) (T := TX10) (N := 10) hx hb hts w_RX10 hown hK hW (by first | with_reducible assumption | with_reducible exact up_s | (rw [up_n (by omega)]; first | with_reducible assumption | with_reducible exact up_s | (rw [up_n (by omega)]; first | with_reducible assumption | with_reducible exact up_s | (rw [up_n (by omega)]; first | with_reducible assumption | with_reducible exact up_s | (rw [up_n (by omega)]; first | with_reducible assumption | with_reducible exact up_s | (rw [up_n (by omega)]; first | with_reducible assumption | with_reducible exact up_s | (rw [up_n (by omega)]; first | with_reducible assumption | with_reducible exact up_s | (rw [up_n (by omega)]; first | with_reducible assumption | with_reducible exact up_s | (rw [up_n (by omega)]; first | with_reducible assumption | with_reducible exact up_s | (rw [up_n (by omega)]; first | with_reducible assumption | with_reducible exact up_s | (rw [up_n (by omega)]; first | with_reducible assumption | with_reducible exact up_s | (rw [up_n (by omega)]; first | with_reducible assumption | with_reducible exact up_s)))))))))))) rfl 0 (by decide) (hq _ q1143 rfl) (fun _ h9 => h9) (by rfl) dX11_body__2 ?_
  refine lv_aload_n hx hb dX11_body__5 rfl (hL.at 0 rfl) ?_
  refine k_get (ci := 13) (C := RX11) (T := TX11) (N := 13) hx hb hts w_RX11 hown hK hW (by first | with_reducible assumption | with_reducible exact up_s | (rw [up_n (by omega)]; first | with_reducible assumption | with_reducible exact up_s | (rw [up_n (by omega)]; first | with_reducible assumption | with_reducible exact up_s | (rw [up_n (by omega)]; first | with_reducible assumption | with_reducible exact up_s | (rw [up_n (by omega)]; first | with_reducible assumption | with_reducible exact up_s | (rw [up_n (by omega)]; first | with_reducible assumption | with_reducible exact up_s | (rw [up_n (by omega)]; first | with_reducible assumption | with_reducible exact up_s | (rw [up_n (by omega)]; first | with_reducible assumption | with_reducible exact up_s | (rw [up_n (by omega)]; first | with_reducible assumption | with_reducible exact up_s | (rw [up_n (by omega)]; first | with_reducible assumption | with_reducible exact up_s | (rw [up_n (by omega)]; first | with_reducible assumption | with_reducible exact up_s | (rw [up_n (by omega)]; first | with_reducible assumption | with_reducible exact up_s)))))))))))) rfl 3 (by decide) (hq _ q874 rfl) (fun _ h9 => h9) (by rfl) dX11_body__6 ?_
  refine lv_aload_n hx hb dX11_body__9 rfl (hL.at 1 rfl) ?_
  refine k_getN (ci := 12) (C := RX10) (T := TX10) (N := 10) hx hb hts w_RX10 hown hK hW (by first | with_reducible assumption | with_reducible exact up_s | (rw [up_n (by omega)]; first | with_reducible assumption | with_reducible exact up_s | (rw [up_n (by omega)]; first | with_reducible assumption | with_reducible exact up_s | (rw [up_n (by omega)]; first | with_reducible assumption | with_reducible exact up_s | (rw [up_n (by omega)]; first | with_reducible assumption | with_reducible exact up_s | (rw [up_n (by omega)]; first | with_reducible assumption | with_reducible exact up_s | (rw [up_n (by omega)]; first | with_reducible assumption | with_reducible exact up_s | (rw [up_n (by omega)]; first | with_reducible assumption | with_reducible exact up_s | (rw [up_n (by omega)]; first | with_reducible assumption | with_reducible exact up_s | (rw [up_n (by omega)]; first | with_reducible assumption | with_reducible exact up_s | (rw [up_n (by omega)]; first | with_reducible assumption | with_reducible exact up_s | (rw [up_n (by omega)]; first | with_reducible assumption | with_reducible exact up_s)))))))))))) rfl 1 (by decide) (hq _ q1144 rfl) (fun _ h9 => h9) (by rfl) dX11_body__10 ?_
  refine k_callV (q := (RJx4a65c, TJx4a65c, 3)) hx hb hml hown hts hK hI hS hW hL.1 hL0.1.2.2.1.1 rfl (c_jgetL G hL0.1.2.2.1 u4 (by omega)) (m5 (gT_in q1030 rfl) (gT_in q1031 rfl) (gT_in q1032 rfl) (gT_in q60 rfl) (gT_in q1033 rfl)) rfl (show kpar yJx4a65c_get_915e3 1 from ⟨by decide, by decide, by decide +kernel⟩) ⟨by decide, by decide⟩ (by show _ ≤ (0 : Nat); omega) (by show _ ≤ (0 : Nat); omega) rfl (by first | decide | exact Nat.le_of_ble_eq_true rfl) dX11_body__13 (fun v ad13 ct13 H locs hp hW hS => ?_)
  obtain ⟨rfl, h1, h2⟩ := hp
  rw [h1, h2] at hW
  refine k_castS (q := (RJx4a65c, TJx4a65c, 3)) hx hb hown (hq _ q842 rfl) hK hW u2.1 rfl dX11_body__16 ?_
  refine lv_iload_n hx hb dX11_body__19 rfl (hL.at 2 rfl) ?_
  refine k_callV (q := (RJx4a65c, TJx4a65c, 3)) hx hb hml hown hts hK hI hS hW hL.1 u2.1 rfl (c_jgetL G u2 hj (by omega)) (m5 (gT_in q1030 rfl) (gT_in q1031 rfl) (gT_in q1032 rfl) (gT_in q60 rfl) (gT_in q1033 rfl)) rfl (show kpar yJx4a65c_get_915e3 1 from ⟨by decide, by decide, by decide +kernel⟩) ⟨by decide, by decide⟩ (by show _ ≤ (0 : Nat); omega) (by show _ ≤ (0 : Nat); omega) rfl (by first | decide | exact Nat.le_of_ble_eq_true rfl) dX11_body__20 (fun v ad20 ct20 H locs hp hW hS => ?_)
  obtain ⟨rfl, h1, h2⟩ := hp
  rw [h1, h2] at hW
  refine k_castI hx hb hown (hq _ q1061 rfl) hK hW (u3 j hj) dX11_body__23 ?_
  refine k_callV (q := (RX11, TX11, 13)) hx hb hml hown hts hK hI hS hW hL.1 (by first | with_reducible assumption | with_reducible exact up_s | (rw [up_n (by omega)]; first | with_reducible assumption | with_reducible exact up_s | (rw [up_n (by omega)]; first | with_reducible assumption | with_reducible exact up_s | (rw [up_n (by omega)]; first | with_reducible assumption | with_reducible exact up_s | (rw [up_n (by omega)]; first | with_reducible assumption | with_reducible exact up_s | (rw [up_n (by omega)]; first | with_reducible assumption | with_reducible exact up_s | (rw [up_n (by omega)]; first | with_reducible assumption | with_reducible exact up_s | (rw [up_n (by omega)]; first | with_reducible assumption | with_reducible exact up_s | (rw [up_n (by omega)]; first | with_reducible assumption | with_reducible exact up_s | (rw [up_n (by omega)]; first | with_reducible assumption | with_reducible exact up_s | (rw [up_n (by omega)]; first | with_reducible assumption | with_reducible exact up_s | (rw [up_n (by omega)]; first | with_reducible assumption | with_reducible exact up_s)))))))))))) rfl (r_body G hm0 hL0 ho u5 (u3 j hj) (u8 j hj)) (m5 (gT_in q1217 rfl) (gT_in q1219 rfl) (gT_in q38 rfl) (gT_in q57 rfl) (gT_in q1220 rfl)) rfl (show kpar yX11_body 2 from ⟨by decide, by decide, by decide +kernel⟩) ⟨by decide, by decide⟩ (by show _ ≤ (0 : Nat); omega) (by show _ ≤ (0 : Nat); omega) rfl (by first | decide | exact Nat.le_of_ble_eq_true rfl) dX11_body__26 (fun v ad26 ct26 H locs hp hW hS => ?_)
  obtain ⟨rfl, h1, h2⟩ := hp
  rw [h1, h2] at hW
  rw [hQ]
  exact k_dret hx hb hr hlocks hW hS (by omega) (by omega) dX11_body__29 (⟨rfl, rfl, rfl⟩)

set_option maxHeartbeats 4000000 in
set_option maxRecDepth 100000 in
/-- TailorBenchModel.pieces  -/
theorem r_pieces {l : Launch} {D : va_G} {cy : Nat → ClassId} {sad : Nat → Nat} {em : Nat} {s0 : State} {a0 : Array Value} (G : kG kSTR l D cy sad em s0 a0) {ad : Nat → Nat} {ct : Nat → Option va_E} {M : tM} {th : Int32} {sm : Int64} (hm0 : ct 100 = some (oMod ad M th sm)) (hL0 : RepL0 cy ad ct M) (ho : okM M) {i : Nat} (hi : i < mO M) {kz : Nat} (hkz : 200 ≤ kz) (hz : ct kz = none) :
    KM l yX11_pieces [.code yX11_pieces prog_10_method_20_code 5 (some .int)] 3 90 1 4 [.ref (ad 100), .ref (ad (170 + i))] D s0 ad ct (fun v ad' ct' => v = some (.int (nI (mCnt M i))) ∧ ad' = ad ∧ ct' = ct) := by
  refine KM.of G (by decide) (Nat.le_of_ble_eq_true rfl) (Nat.le_of_ble_eq_true rfl) ?_
  intro p e s m args below meth c ls Q hQ X hin hL hW hS
  obtain ⟨hx, hb, hr, hml, hown, hlocks, hts, hq, hK, hI⟩ := X
  have hbn := ho.1
  obtain ⟨u1, u2, u3, u4, u5, u6, u7, u8, u9, u10⟩ := rOrd hL0 ho hi
  have hcn : ∀ j, j ≤ (mst M (oS (mod M i))).1 → fCnt (mst M (oS (mod M i))).2.1 j ≤ 20 := fun j hj => Nat.le_trans (fCnt_le _ hj) (fCnt_20 u7 u8)
  replace hL := hL.nrm (l' := [some _, some _, none, none, none]) rfl
  refine lv_iconst (v := 0) hx hb dX11_pieces_0 (by decide) ?_
  refine k_ist_n hx hb hL (i := 2) rfl (by decide) dX11_pieces_1 (fun ls hL => ?_)
  replace hL := hL.nrm (l' := [some _, some _, some _, none, none]) rfl
  refine lv_aload_n hx hb dX11_pieces_2 rfl (hL.at 0 rfl) ?_
  refine k_get (ci := 13) (C := RX11) (T := TX11) (N := 13) hx hb hts w_RX11 hown hK hW (by first | with_reducible assumption | with_reducible exact up_s | (rw [up_n (by omega)]; first | with_reducible assumption | with_reducible exact up_s | (rw [up_n (by omega)]; first | with_reducible assumption | with_reducible exact up_s | (rw [up_n (by omega)]; first | with_reducible assumption | with_reducible exact up_s | (rw [up_n (by omega)]; first | with_reducible assumption | with_reducible exact up_s | (rw [up_n (by omega)]; first | with_reducible assumption | with_reducible exact up_s | (rw [up_n (by omega)]; first | with_reducible assumption | with_reducible exact up_s | (rw [up_n (by omega)]; first | with_reducible assumption | with_reducible exact up_s | (rw [up_n (by omega)]; first | with_reducible assumption | with_reducible exact up_s | (rw [up_n (by omega)]; first | with_reducible assumption | with_reducible exact up_s | (rw [up_n (by omega)]; first | with_reducible assumption | with_reducible exact up_s | (rw [up_n (by omega)]; first | with_reducible assumption | with_reducible exact up_s)))))))))))) rfl 3 (by decide) (hq _ q874 rfl) (fun _ h9 => h9) (by rfl) dX11_pieces_3 ?_
  refine lv_aload_n hx hb dX11_pieces_6 rfl (hL.at 1 rfl) ?_
  refine k_getN (ci := 12) (C := RX10) (T := TX10) (N := 10) hx hb hts w_RX10 hown hK hW (by first | with_reducible assumption | with_reducible exact up_s | (rw [up_n (by omega)]; first | with_reducible assumption | with_reducible exact up_s | (rw [up_n (by omega)]; first | with_reducible assumption | with_reducible exact up_s | (rw [up_n (by omega)]; first | with_reducible assumption | with_reducible exact up_s | (rw [up_n (by omega)]; first | with_reducible assumption | with_reducible exact up_s | (rw [up_n (by omega)]; first | with_reducible assumption | with_reducible exact up_s | (rw [up_n (by omega)]; first | with_reducible assumption | with_reducible exact up_s | (rw [up_n (by omega)]; first | with_reducible assumption | with_reducible exact up_s | (rw [up_n (by omega)]; first | with_reducible assumption | with_reducible exact up_s | (rw [up_n (by omega)]; first | with_reducible assumption | with_reducible exact up_s | (rw [up_n (by omega)]; first | with_reducible assumption | with_reducible exact up_s | (rw [up_n (by omega)]; first | with_reducible assumption | with_reducible exact up_s)))))))))))) rfl 1 (by decide) (hq _ q1144 rfl) (fun _ h9 => h9) (by rfl) dX11_pieces_7 ?_
  refine k_callV (q := (RJx4a65c, TJx4a65c, 3)) hx hb hml hown hts hK hI hS hW hL.1 hL0.1.2.2.1.1 rfl (c_jgetL G hL0.1.2.2.1 u4 (by omega)) (m5 (gT_in q1030 rfl) (gT_in q1031 rfl) (gT_in q1032 rfl) (gT_in q60 rfl) (gT_in q1033 rfl)) rfl (show kpar yJx4a65c_get_915e3 1 from ⟨by decide, by decide, by decide +kernel⟩) ⟨by decide, by decide⟩ (by show _ ≤ (1 : Nat); omega) (by show _ ≤ (4 : Nat); omega) rfl (by first | decide | exact Nat.le_of_ble_eq_true rfl) dX11_pieces_10 (fun v ad10 ct10 H locs hp hW hS => ?_)
  obtain ⟨rfl, h1, h2⟩ := hp
  rw [h1, h2] at hW
  refine k_castS (q := (RJx4a65c, TJx4a65c, 3)) hx hb hown (hq _ q842 rfl) hK hW u2.1 rfl dX11_pieces_13 ?_
  refine k_callV (q := (RJx4a65c, TJx4a65c, 3)) hx hb hml hown hts hK hI hS hW hL.1 u2.1 rfl (c_jiter G (kz := kz) (by omega) (by omega) hz u2.1) (m5 (gT_in q1077 rfl) (gT_in q1078 rfl) (gT_in q1079 rfl) (gT_in q60 rfl) (gT_in q1080 rfl)) rfl (show kpar yJx4a65c_iterator_32c93 0 from ⟨by decide, by decide, by decide +kernel⟩) ⟨by decide, by decide⟩ (by show _ ≤ (1 : Nat); omega) (by show _ ≤ (4 : Nat); omega) rfl (by first | decide | exact Nat.le_of_ble_eq_true rfl) dX11_pieces_16 (fun v ad16 ct16 H locs hp hW hS => ?_)
  obtain ⟨rfl, hda, hv1, hr1⟩ := hp
  rw [← hda 100 (by omega), ← hda (170 + i) (by omega)] at hL
  refine k_ast_n hx hb hL (i := 3) rfl (by decide) dX11_pieces_19 (fun ls hL => ?_)
  replace hL := hL.nrm (l' := [some _, some _, some _, some _, none]) rfl
  have loop20 : ∀ (nf : Nat) (j : Nat) (lr : Int32) (ct1 : Nat → Option va_E), (mst M (oS (mod M i))).1 - j < nf → j ≤ (mst M (oS (mod M i))).1 → ct1 kz = some (oJt j lr (mst M (oS (mod M i))).1 (ad (140 + oS (mod M i)))) → (∀ k, k ≠ kz → ct1 k = ct k) → ∀ (H : Heap) (locs : List Loc) (ls : Array Slot), kW D s0.heap.size ad16 ct1 H → va_S (kA s0) s.heap H locs → lvP ls 5 [some (.ref (ad16 100)), some (.ref (ad16 (170 + i))), some (.int (nI (fCnt (mst M (oS (mod M i))).2.1 j))), some (.ref (ad16 kz)), none] → W p l e (krm 3 90 1 4) s m args below meth c H locs 1 4 Q (F0 m 20 ls []) := by
    intro nf
    induction nf with
    | zero => intro j lr ct1 hms20; exact absurd hms20 (Nat.not_lt_zero _)
    | succ nf ih20 =>
      intro j lr ct1 hms20 hj hit hrk H locs ls hW hS hL
      refine lv_aload_n hx hb dX11_pieces_20 rfl (hL.at 3 rfl) ?_
      refine k_callF (q := (RJx35411, TJx35411, 4)) G hx hb hml hown hts hK hI hS hW hL.1 hit rfl (c_jhas G (kz := kz) (kl := 140 + oS (mod M i)) (n := (mst M (oS (mod M i))).1) (by rw [hda _ (by omega)]; exact hit) ((hrk _ (by omega)).trans u2.1) (by omega) (by omega)) (m5 (gT_in q1101 rfl) (gT_in q1105 rfl) (gT_in q1107 rfl) (gT_in q78 rfl) (gT_in q1109 rfl)) q1103 q1102 q1108 q1106 q1104 ⟨by decide, by decide, by decide +kernel⟩ ⟨by decide, by decide⟩ (by show _ ≤ (1 : Nat); omega) (by show _ ≤ (4 : Nat); omega) rfl (by first | decide | exact Nat.le_of_ble_eq_true rfl) dX11_pieces_21 (fun v ad21 ct21 H locs hp hW hS => ?_)
      obtain ⟨rfl, h1, h2⟩ := hp
      rw [h1, h2] at hW
      refine lv_if_eq (tgt := 50) hx hb dX11_pieces_26 (by decide) (fun c26 => ?_) (fun c26 => ?_)
      · try simp only [b2_eq, b3_eq, Decidable.not_not] at c26
        try dsimp only at c26
        have ej : j = (mst M (oS (mod M i))).1 := c26
        subst ej
        have hW := hW.back (ad := ad) (ct := ct) (fun k9 e9 h9 => have q9 : k9 ≠ kz := fun z => by rw [z, hz] at h9; cases h9
          ⟨(hrk k9 q9).trans h9, hda k9 q9⟩)
        refine lv_iload_n hx hb dX11_pieces_50 rfl (hL.at 2 rfl) ?_
        rw [hQ]
        exact k_iret hx hb hr hlocks hW hS (by omega) (by omega) dX11_pieces_51 (⟨rfl, rfl, rfl⟩)
      · try simp only [b2_eq, b3_eq, Decidable.not_not] at c26
        try dsimp only at c26
        have hlt : j < (mst M (oS (mod M i))).1 := by
          have h9 : ¬ j = (mst M (oS (mod M i))).1 := c26
          omega
        refine lv_aload_n hx hb dX11_pieces_29 rfl (hL.at 3 rfl) ?_
        refine k_callF (q := (RJx35411, TJx35411, 4)) G hx hb hml hown hts hK hI hS hW hL.1 hit rfl (c_jnext G (kz := kz) (kl := 140 + oS (mod M i)) (kd := 144 + oS (mod M i)) (N := 10) (by omega) (by omega) (by omega) (by rw [hda _ (by omega)]; exact hit) (by rw [hda _ (by omega)]; exact (hrk _ (by omega)).trans (u2.get hlt).1) ((hrk _ (by omega)).trans (u2.get hlt).2.1) hlt (by omega) (by omega) (u2.get hlt).2.2) (m5 (gT_in q1111 rfl) (gT_in q1114 rfl) (gT_in q1116 rfl) (gT_in q78 rfl) (gT_in q1118 rfl)) q1113 q1112 q1117 q1115 q1104 ⟨by decide, by decide, by decide +kernel⟩ ⟨by decide, by decide⟩ (by show _ ≤ (1 : Nat); omega) (by show _ ≤ (4 : Nat); omega) rfl (by first | decide | exact Nat.le_of_ble_eq_true rfl) dX11_pieces_30 (fun v ad30 ct30 H locs hp hW hS => ?_)
        obtain ⟨rfl, h1, hv2, hr2⟩ := hp
        rw [h1] at hW
        rw [← hda (150 + 5 * oS (mod M i) + j) (by omega)]
        have hpj := (hr2 (150 + 5 * oS (mod M i) + j) (by omega)).trans ((hrk _ (by omega)).trans (u3 j hlt))
        refine k_castI hx hb hown (hq _ q1061 rfl) hK hW hpj dX11_pieces_35 ?_
        refine k_ast hx hb hL (i := 4) (by decide) dX11_pieces_38 (fun ls hL => ?_)
        replace hL := hL.nrm (l' := [some _, some _, some _, some _, some _]) rfl
        refine lv_iload_n hx hb dX11_pieces_40 rfl (hL.at 2 rfl) ?_
        refine lv_aload hx hb dX11_pieces_41 (hL.at 4 rfl) ?_
        refine lv_iconst (v := 3) hx hb dX11_pieces_43 (by decide) ?_
        refine k_iald hx hb hK hW (by first | with_reducible assumption | with_reducible exact up_s | (rw [up_n (by omega)]; first | with_reducible assumption | with_reducible exact up_s | (rw [up_n (by omega)]; first | with_reducible assumption | with_reducible exact up_s | (rw [up_n (by omega)]; first | with_reducible assumption | with_reducible exact up_s | (rw [up_n (by omega)]; first | with_reducible assumption | with_reducible exact up_s | (rw [up_n (by omega)]; first | with_reducible assumption | with_reducible exact up_s | (rw [up_n (by omega)]; first | with_reducible assumption | with_reducible exact up_s | (rw [up_n (by omega)]; first | with_reducible assumption | with_reducible exact up_s | (rw [up_n (by omega)]; first | with_reducible assumption | with_reducible exact up_s | (rw [up_n (by omega)]; first | with_reducible assumption | with_reducible exact up_s | (rw [up_n (by omega)]; first | with_reducible assumption | with_reducible exact up_s | (rw [up_n (by omega)]; first | with_reducible assumption | with_reducible exact up_s)))))))))))) 3 (by omega) (by omega) rfl dX11_pieces_44 ?_
        rw [show fI4 (fPc4 ((mst M (oS (mod M i))).2.1 j)) 3 = nI ((mst M (oS (mod M i))).2.1 j).2.2.2 from rfl]
        refine lv_iadd hx hb dX11_pieces_45 ?_
        rw [nI_add, show fCnt (mst M (oS (mod M i))).2.1 j + ((mst M (oS (mod M i))).2.1 j).2.2.2 = fCnt (mst M (oS (mod M i))).2.1 (j + 1) from rfl]
        refine k_ist_n hx hb hL (i := 2) rfl (by decide) dX11_pieces_46 (fun ls hL => ?_)
        replace hL := hL.nrm (l' := [some _, some _, some _, some _, some _]) rfl
        refine lv_goto (tgt := 20) hx hb dX11_pieces_47 (by decide) ?_
        exact ih20 (j + 1) _ _ (by omega) (by omega) (by rw [← hda (140 + oS (mod M i)) (by omega)]; exact hv2) (fun k hk => (hr2 k hk).trans (hrk k hk)) _ _ _ hW hS (hL.le (by repeat (first | exact kle_nil | refine kle_same ?_ | refine kle_drop ?_)))
  exact loop20 ((mst M (oS (mod M i))).1 + 1) 0 _ _ (by omega) (Nat.zero_le _) hv1 hr1 _ _ _ hW hS hL
