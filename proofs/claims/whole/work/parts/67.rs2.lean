/-! the reference's shop, one hand more -/
theorem RepL0_aHa {cy : Nat → ClassId} {ad : Nat → Nat} {ct ct1 : Nat → Option va_E} {M : tM} (h : RepL0 cy ad ct M) (ho : okM M) (f : tHa) (hx : ∀ j, j < 200 → j ≠ 105 → j ≠ 106 → ct1 j = ct j) (h1 : ct1 105 = some (.inl (cy 0, 3, aD (fF (aHa M f))))) (h2 : ct1 106 = some (.inl (cy 2, 3, aF (fP (aHa M f))))) : RepL0 cy ad ct1 (aHa M f) := by
  obtain ⟨⟨a1, a2, a3, a4⟩, -, c1, c2, c3, c4, c5, c6, c7⟩ := h
  obtain ⟨⟨hb1, hb2, hb3, hb4, hb5⟩, -, -, hk3, -, hk5⟩ := ho
  have g : ∀ j, j < 200 → j ≠ 105 → j ≠ 106 → ct1 j = ct j := hx
  refine ⟨⟨a1.mvg rfl rfl (g _ (by omega) (by omega) (by omega)) (g _ (by omega) (by omega) (by omega)) (fun _ _ => rfl), a2.mvg rfl rfl (g _ (by omega) (by omega) (by omega)) (g _ (by omega) (by omega) (by omega)) (fun _ _ => rfl), a3.mvg rfl rfl (g _ (by omega) (by omega) (by omega)) (g _ (by omega) (by omega) (by omega)) (fun _ _ => rfl), a4.mvg rfl rfl (g _ (by omega) (by omega) (by omega)) (g _ (by omega) (by omega) (by omega)) (fun _ _ => rfl)⟩, ⟨h1, h2⟩, fun j (hj : j < mC M) => (g _ (by omega) (by omega) (by omega)).trans (c1 j hj), fun j (hj : j < mP M) => (g _ (by omega) (by omega) (by omega)).trans (c2 j hj), fun j (hj : j < mS M) => ?_, fun j (hj : j < mS M) k hk => ?_, fun j (hj : j < mO M) => (g _ (by omega) (by omega) (by omega)).trans (c5 j hj), fun j (hj : j < mO M) => ⟨fun z => (g _ (by omega) (by omega) (by omega)).trans ((c6 j hj).1 z), fun z => (g _ (by omega) (by omega) (by omega)).trans ((c6 j hj).2 z)⟩, (g 0 (by omega) (by omega) (by omega)).trans c7⟩
  · have hz := (hk3 j hj).1
    exact (c3 j hj).mvg rfl rfl (g _ (by omega) (by omega) (by omega)) (g _ (by omega) (by omega) (by omega)) (fun _ _ => rfl)
  · have hz := (hk3 j hj).1
    have hk2 : k < (mst M j).1 := hk
    exact (g _ (by omega) (by omega) (by omega)).trans (c4 j hj k hk)
theorem fF_aHa {M : tM} {w : Nat} : fF (aHa M (w, cD0)) = fF M := by
  funext k
  show (if k < mH M + 1 then (vf_upd (mha M) (mH M) (w, cD0) k).2 else 0) = if k < mH M then (mha M k).2 else 0
  by_cases e : k = mH M
  · rw [e, vu_s, if_pos (Nat.lt_succ_self _), if_neg (Nat.lt_irrefl _)]
  · rw [vu_n e]
    by_cases q : k < mH M
    · rw [if_pos q, if_pos (by omega)]
    · rw [if_neg q, if_neg (by omega)]
