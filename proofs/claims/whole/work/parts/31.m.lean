/-! the other one of a lay -/
set_option maxHeartbeats 4000000 in
set_option maxRecDepth 100000 in
/-- TailorBench.otherAt  -/
theorem c_otherAt {l : Launch} {D : va_G} {cy : Nat → ClassId} {sad : Nat → Nat} {em : Nat} {s0 : State} {a0 : Array Value} (G : kG kSTR l D cy sad em s0 a0) {ad : Nat → Nat} {ct : Nat → Option va_E} {M : tM} (hm : RepC cy ad ct M) (ho : okM M) (x : Int32) :
    KX l yX7_otherAt [.code yX7_otherAt prog_1_method_35_code 2 (some (.object "TailorBench$Order"))] 7 120 2 12 [.ref (ad 1), .int x] D s0 ad ct (fun v ad' ct' => ((x = -1 ∧ v = some .null) ∨ ∃ i2, i2 < mO M ∧ x = nI i2 ∧ v = some (.ref (ad (64 + i2)))) ∧ ad' = ad ∧ ct' = ct) (fun E => E = eIdx ∧ ¬ x = -1 ∧ ¬ kIn x (mO M)) := by
  refine KX.of G (by decide) (Nat.le_of_ble_eq_true rfl) (Nat.le_of_ble_eq_true rfl) ?_
  intro p e s m args below meth c ls Q hQ X hin hL hW hS
  obtain ⟨hx, hb, hr, hml, hown, hlocks, hts, hq, hK, hI⟩ := X
  have hbn := ho.1
  have hs1 := hm.1
  refine lv_iload_n hx hb dX7_otherAt_0 rfl (hL.at 1 rfl) ?_
  refine lv_iconst (v := (-1)) hx hb dX7_otherAt_1 (by decide) ?_
  refine lv_icmp_ne (tgt := 9) hx hb dX7_otherAt_2 (by decide) (fun c2 => ?_) (fun c2 => ?_)
  · try dsimp only at c2
    refine lv_aload_n hx hb dX7_otherAt_9 rfl (hL.at 0 rfl) ?_
    refine lv_iload_n hx hb dX7_otherAt_10 rfl (hL.at 1 rfl) ?_
    refine k_callVX (q := (RX7, TX7, 15)) hx hb hml hown hts hK hI hS hW hL.1 (by first | assumption | exact up_s | (rw [up_n (by omega)]; first | assumption | exact up_s | (rw [up_n (by omega)]; first | assumption | exact up_s | (rw [up_n (by omega)]; first | assumption | exact up_s | (rw [up_n (by omega)]; first | assumption | exact up_s | (rw [up_n (by omega)]; first | assumption | exact up_s | (rw [up_n (by omega)]; first | assumption | exact up_s | (rw [up_n (by omega)]; first | assumption | exact up_s | (rw [up_n (by omega)]; first | assumption | exact up_s | (rw [up_n (by omega)]; first | assumption | exact up_s | (rw [up_n (by omega)]; first | assumption | exact up_s | (rw [up_n (by omega)]; first | assumption | exact up_s)))))))))))) rfl (c_orderAt G hm ho x) (m5 (gT_in q325 rfl) (gT_in q327 rfl) (gT_in q3 rfl) (gT_in q55 rfl) (gT_in q328 rfl)) rfl (show kpar yX7_orderAt 1 from ⟨by decide, by decide, by decide +kernel⟩) ⟨by decide, by decide⟩ (by show _ ≤ (2 : Nat); omega) (by show _ ≤ (12 : Nat); omega) rfl (by decide) dX7_otherAt_11 (fun E ce q9 H locs hp hW hS hce hcv hcl => ?_) (fun v ad11 ct11 H locs hp hW hS => ?_)
    · rw [hQ]; exact k_out hown hlocks hin hW hS hce hcv hcl (by omega) (by omega) (⟨hp.1, c2, hp.2⟩)
    obtain ⟨i, hi, hxi, rfl, h1, h2⟩ := hp
    rw [h1, h2] at hW
    rw [hQ]
    exact vx_ret (k_aret hx hb hr (Or.inl ⟨_, rfl⟩) hlocks (by first | exact Or.inr ⟨_, rfl⟩ | exact Or.inl rfl) hW hS (by omega) (by omega) dX7_otherAt_14 (⟨by first | exact Or.inr ⟨i, hi, hxi, rfl⟩ | exact Or.inl ⟨Decidable.not_not.mp c2, rfl⟩ | exact Or.inl ⟨c2, rfl⟩, rfl, rfl⟩))
  · try dsimp only at c2
    refine lv_null hx hb dX7_otherAt_5 ?_
    refine lv_goto (tgt := 14) hx hb dX7_otherAt_6 (by decide) ?_
    rw [hQ]
    exact vx_ret (k_aret hx hb hr (Or.inl ⟨_, rfl⟩) hlocks (by first | exact Or.inr ⟨_, rfl⟩ | exact Or.inl rfl) hW hS (by omega) (by omega) dX7_otherAt_14 (⟨by first | exact Or.inr ⟨i, hi, hxi, rfl⟩ | exact Or.inl ⟨Decidable.not_not.mp c2, rfl⟩ | exact Or.inl ⟨c2, rfl⟩, rfl, rfl⟩))
