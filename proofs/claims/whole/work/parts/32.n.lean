/-! the class changed -/
set_option maxHeartbeats 4000000 in
set_option maxRecDepth 100000 in
/-- TailorBench.shut  -/
theorem c_shut {l : Launch} {D : va_G} {cy : Nat → ClassId} {sad : Nat → Nat} {em : Nat} {s0 : State} {a0 : Array Value} (G : kG kSTR l D cy sad em s0 a0) {ad : Nat → Nat} {ct : Nat → Option va_E} {M : tM} (hm : RepC cy ad ct M) (ho : okM M) (hsh : mShut M = 0 ∨ mShut M = 1) (bs : Int32) (hbs : bs = 0 ∨ bs = 1) :
    KM l yX7_shut [.code yX7_shut prog_1_method_15_code 3 (some .boolean)] 0 0 0 0 [.ref (ad 1), .int bs] D s0 ad ct (fun v ad' ct' => v = some (.int (mShut M)) ∧ ad' = ad ∧ ct' 1 = some (oShop ad (sSh M (mClk M, mPur M, mRef M, bs))) ∧ ∀ k, k ≠ 1 → ct' k = ct k) := by
  refine KM.of G (by decide) (Nat.le_of_ble_eq_true rfl) (Nat.le_of_ble_eq_true rfl) ?_
  intro p e s m args below meth c ls Q hQ X hin hL hW hS
  obtain ⟨hx, hb, hr, hml, hown, hlocks, hts, hq, hK, hI⟩ := X
  have hs1 := hm.1
  refine lv_aload_n hx hb dX7_shut_0 rfl (hL.at 0 rfl) ?_
  refine k_get (ci := 9) (C := RX7) (T := TX7) (N := 15) hx hb hts w_RX7 hown hK hW (by first | assumption | exact up_s | (rw [up_n (by omega)]; first | assumption | exact up_s | (rw [up_n (by omega)]; first | assumption | exact up_s | (rw [up_n (by omega)]; first | assumption | exact up_s | (rw [up_n (by omega)]; first | assumption | exact up_s | (rw [up_n (by omega)]; first | assumption | exact up_s | (rw [up_n (by omega)]; first | assumption | exact up_s | (rw [up_n (by omega)]; first | assumption | exact up_s | (rw [up_n (by omega)]; first | assumption | exact up_s | (rw [up_n (by omega)]; first | assumption | exact up_s | (rw [up_n (by omega)]; first | assumption | exact up_s | (rw [up_n (by omega)]; first | assumption | exact up_s)))))))))))) rfl 14 (by decide) (hq _ q163 rfl) (fun _ h9 => h9) (by rfl) dX7_shut_1 ?_
  refine k_ist_n hx hb hL (i := 2) rfl (by decide) dX7_shut_4 (fun ls hL => ?_)
  refine lv_aload_n hx hb dX7_shut_5 rfl (hL.at 0 rfl) ?_
  refine lv_iload_n hx hb dX7_shut_6 rfl (hL.at 1 rfl) ?_
  refine k_put (ci := 9) (C := RX7) (T := TX7) (N := 15) (ty := tyX7 14) hx hb hts w_RX7 tyX7 tyX7_ok nmX7 hown hK hW hS (by first | assumption | exact up_s | (rw [up_n (by omega)]; first | assumption | exact up_s | (rw [up_n (by omega)]; first | assumption | exact up_s | (rw [up_n (by omega)]; first | assumption | exact up_s | (rw [up_n (by omega)]; first | assumption | exact up_s | (rw [up_n (by omega)]; first | assumption | exact up_s | (rw [up_n (by omega)]; first | assumption | exact up_s | (rw [up_n (by omega)]; first | assumption | exact up_s | (rw [up_n (by omega)]; first | assumption | exact up_s | (rw [up_n (by omega)]; first | assumption | exact up_s | (rw [up_n (by omega)]; first | assumption | exact up_s | (rw [up_n (by omega)]; first | assumption | exact up_s)))))))))))) (by omega) rfl 14 (by decide) (hq _ q163 rfl) (fun _ h9 => h9) rfl (by decide +kernel) (by rcases hbs with rfl | rfl <;> rfl) (by rcases hbs with rfl | rfl <;> rfl) (by first | exact Nat.le_of_ble_eq_true rfl | (simp only [List.length_set]; exact Nat.le_of_ble_eq_true rfl)) dX7_shut_7 (fun H locs hW hS => ?_)
  refine lv_iload_n hx hb dX7_shut_10 rfl (hL.at 2 rfl) ?_
  rw [hQ]
  exact k_zret hx hb hr hlocks (by rcases hsh with h | h <;> rw [h] <;> rfl) hW hS (by omega) (by omega) dX7_shut_11 (⟨rfl, rfl, up_s, fun k hk => up_n hk⟩)

set_option maxHeartbeats 4000000 in
set_option maxRecDepth 100000 in
/-- TailorBench$Person.write  -/
theorem c_write {l : Launch} {D : va_G} {cy : Nat → ClassId} {sad : Nat → Nat} {em : Nat} {s0 : State} {a0 : Array Value} (G : kG kSTR l D cy sad em s0 a0) {ad : Nat → Nat} {ct : Nat → Option va_E} {kp : Nat} (hkp : 0 < kp) {num : Int32} {ms : Nat → Nat} (hp : ct kp = some (oPer num ms)) {j : Nat} (hj : j < 4) (mv : Nat) :
    KM l yX3_write [.code yX3_write prog_5_method_3_code 3 none] 0 0 0 0 [.ref (ad kp), .int (nI j), .int (nI mv)] D s0 ad ct (fun v ad' ct' => v = none ∧ ad' = ad ∧ ct' kp = some (oPer num (vf_upd ms j mv)) ∧ ∀ k, k ≠ kp → ct' k = ct k) := by
  refine KM.of G (by decide) (Nat.le_of_ble_eq_true rfl) (Nat.le_of_ble_eq_true rfl) ?_
  intro p e s m args below meth c ls Q hQ X hin hL hW hS
  obtain ⟨hx, hb, hr, hml, hown, hlocks, hts, hq, hK, hI⟩ := X
  refine lv_iload_n hx hb dX3_write_0 rfl (hL.at 1 rfl) ?_
  rcases (show j = 0 ∨ j = 1 ∨ j = 2 ∨ j = 3 by omega) with rfl | rfl | rfl | rfl
  · refine lv_tableIn (tgt := 28) hx hb dX3_write_1 (by decide) (by decide) rfl (by decide) ?_
    refine lv_aload_n hx hb dX3_write_28 rfl (hL.at 0 rfl) ?_
    refine lv_iload_n hx hb dX3_write_29 rfl (hL.at 2 rfl) ?_
    refine k_put (ci := 5) (C := RX3) (T := TX3) (N := 5) (ty := tyX3 1) hx hb hts w_RX3 tyX3 tyX3_ok nmX3 hown hK hW hS (by first | assumption | exact up_s | (rw [up_n (by omega)]; first | assumption | exact up_s | (rw [up_n (by omega)]; first | assumption | exact up_s | (rw [up_n (by omega)]; first | assumption | exact up_s | (rw [up_n (by omega)]; first | assumption | exact up_s | (rw [up_n (by omega)]; first | assumption | exact up_s | (rw [up_n (by omega)]; first | assumption | exact up_s | (rw [up_n (by omega)]; first | assumption | exact up_s | (rw [up_n (by omega)]; first | assumption | exact up_s | (rw [up_n (by omega)]; first | assumption | exact up_s | (rw [up_n (by omega)]; first | assumption | exact up_s | (rw [up_n (by omega)]; first | assumption | exact up_s)))))))))))) (by omega) rfl 1 (by decide) (hq _ q525 rfl) (fun _ h9 => h9) rfl (by decide +kernel) rfl rfl (by first | exact Nat.le_of_ble_eq_true rfl | (simp only [List.length_set]; exact Nat.le_of_ble_eq_true rfl)) dX3_write_30 (fun H locs hW hS => ?_)
    refine lv_goto (tgt := 57) hx hb dX3_write_33 (by decide) ?_
    rw [hQ]
    exact k_vret hx hb hr hlocks hW hS (by omega) (by omega) dX3_write_57 (⟨rfl, rfl, up_s, fun k hk => up_n hk⟩)
  · refine lv_tableIn (tgt := 36) hx hb dX3_write_1 (by decide) (by decide) rfl (by decide) ?_
    refine lv_aload_n hx hb dX3_write_36 rfl (hL.at 0 rfl) ?_
    refine lv_iload_n hx hb dX3_write_37 rfl (hL.at 2 rfl) ?_
    refine k_put (ci := 5) (C := RX3) (T := TX3) (N := 5) (ty := tyX3 2) hx hb hts w_RX3 tyX3 tyX3_ok nmX3 hown hK hW hS (by first | assumption | exact up_s | (rw [up_n (by omega)]; first | assumption | exact up_s | (rw [up_n (by omega)]; first | assumption | exact up_s | (rw [up_n (by omega)]; first | assumption | exact up_s | (rw [up_n (by omega)]; first | assumption | exact up_s | (rw [up_n (by omega)]; first | assumption | exact up_s | (rw [up_n (by omega)]; first | assumption | exact up_s | (rw [up_n (by omega)]; first | assumption | exact up_s | (rw [up_n (by omega)]; first | assumption | exact up_s | (rw [up_n (by omega)]; first | assumption | exact up_s | (rw [up_n (by omega)]; first | assumption | exact up_s | (rw [up_n (by omega)]; first | assumption | exact up_s)))))))))))) (by omega) rfl 2 (by decide) (hq _ q526 rfl) (fun _ h9 => h9) rfl (by decide +kernel) rfl rfl (by first | exact Nat.le_of_ble_eq_true rfl | (simp only [List.length_set]; exact Nat.le_of_ble_eq_true rfl)) dX3_write_38 (fun H locs hW hS => ?_)
    refine lv_goto (tgt := 57) hx hb dX3_write_41 (by decide) ?_
    rw [hQ]
    exact k_vret hx hb hr hlocks hW hS (by omega) (by omega) dX3_write_57 (⟨rfl, rfl, up_s, fun k hk => up_n hk⟩)
  · refine lv_tableIn (tgt := 44) hx hb dX3_write_1 (by decide) (by decide) rfl (by decide) ?_
    refine lv_aload_n hx hb dX3_write_44 rfl (hL.at 0 rfl) ?_
    refine lv_iload_n hx hb dX3_write_45 rfl (hL.at 2 rfl) ?_
    refine k_put (ci := 5) (C := RX3) (T := TX3) (N := 5) (ty := tyX3 3) hx hb hts w_RX3 tyX3 tyX3_ok nmX3 hown hK hW hS (by first | assumption | exact up_s | (rw [up_n (by omega)]; first | assumption | exact up_s | (rw [up_n (by omega)]; first | assumption | exact up_s | (rw [up_n (by omega)]; first | assumption | exact up_s | (rw [up_n (by omega)]; first | assumption | exact up_s | (rw [up_n (by omega)]; first | assumption | exact up_s | (rw [up_n (by omega)]; first | assumption | exact up_s | (rw [up_n (by omega)]; first | assumption | exact up_s | (rw [up_n (by omega)]; first | assumption | exact up_s | (rw [up_n (by omega)]; first | assumption | exact up_s | (rw [up_n (by omega)]; first | assumption | exact up_s | (rw [up_n (by omega)]; first | assumption | exact up_s)))))))))))) (by omega) rfl 3 (by decide) (hq _ q527 rfl) (fun _ h9 => h9) rfl (by decide +kernel) rfl rfl (by first | exact Nat.le_of_ble_eq_true rfl | (simp only [List.length_set]; exact Nat.le_of_ble_eq_true rfl)) dX3_write_46 (fun H locs hW hS => ?_)
    refine lv_goto (tgt := 57) hx hb dX3_write_49 (by decide) ?_
    rw [hQ]
    exact k_vret hx hb hr hlocks hW hS (by omega) (by omega) dX3_write_57 (⟨rfl, rfl, up_s, fun k hk => up_n hk⟩)
  · refine lv_tableOut (tgt := 52) hx hb dX3_write_1 (by decide) (by decide) ?_
    refine lv_aload_n hx hb dX3_write_52 rfl (hL.at 0 rfl) ?_
    refine lv_iload_n hx hb dX3_write_53 rfl (hL.at 2 rfl) ?_
    refine k_put (ci := 5) (C := RX3) (T := TX3) (N := 5) (ty := tyX3 4) hx hb hts w_RX3 tyX3 tyX3_ok nmX3 hown hK hW hS (by first | assumption | exact up_s | (rw [up_n (by omega)]; first | assumption | exact up_s | (rw [up_n (by omega)]; first | assumption | exact up_s | (rw [up_n (by omega)]; first | assumption | exact up_s | (rw [up_n (by omega)]; first | assumption | exact up_s | (rw [up_n (by omega)]; first | assumption | exact up_s | (rw [up_n (by omega)]; first | assumption | exact up_s | (rw [up_n (by omega)]; first | assumption | exact up_s | (rw [up_n (by omega)]; first | assumption | exact up_s | (rw [up_n (by omega)]; first | assumption | exact up_s | (rw [up_n (by omega)]; first | assumption | exact up_s | (rw [up_n (by omega)]; first | assumption | exact up_s)))))))))))) (by omega) rfl 4 (by decide) (hq _ q528 rfl) (fun _ h9 => h9) rfl (by decide +kernel) rfl rfl (by first | exact Nat.le_of_ble_eq_true rfl | (simp only [List.length_set]; exact Nat.le_of_ble_eq_true rfl)) dX3_write_54 (fun H locs hW hS => ?_)
    rw [hQ]
    exact k_vret hx hb hr hlocks hW hS (by omega) (by omega) dX3_write_57 (⟨rfl, rfl, up_s, fun k hk => up_n hk⟩)
