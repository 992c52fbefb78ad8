/-! the reference's shop, one thing set -/
theorem rLst.mvg {cy : Nat → ClassId} {ad ad1 : Nat → Nat} {ct ct1 : Nat → Option va_E} {kl kd base n : Nat} (h : rLst cy ad ct kl kd base n) (h0 : ad1 0 = ad 0) (h1 : ad1 kd = ad kd) (h2 : ct1 kl = ct kl) (h3 : ct1 kd = ct kd) (hb : ∀ i, i < n → ad1 (base + i) = ad (base + i)) : rLst cy ad1 ct1 kl kd base n := by
  obtain ⟨a1, a2, a3⟩ := h
  refine ⟨?_, fun z => ?_, fun z => h3.trans (a3 z)⟩
  · refine h2.trans (a1.trans (congrArg some ?_))
    have e : ad1 (if n = 0 then 0 else kd) = ad (if n = 0 then 0 else kd) := by split <;> assumption
    show oLs (ad (if n = 0 then 0 else kd)) n = oLs (ad1 (if n = 0 then 0 else kd)) n
    rw [e]
  · rw [kqs_eq (ad := ad) hb]
    exact h3.trans (a2 z)
theorem RepL0_sOr {cy : Nat → ClassId} {ad ad1 : Nat → Nat} {ct ct1 : Nat → Option va_E} {M : tM} (h : RepL0 cy ad ct M) (ho : okM M) {i : Nat} (hi : i < mO M) (o : tOr) (hx : ∀ j, j ≠ 170 + i → j ≠ 180 + i → j ≠ 190 + i → ad1 j = ad j ∧ ct1 j = ct j) (hao : ad1 (170 + i) = ad (170 + i)) (h1 : ct1 (170 + i) = some (rOr ad1 i o)) (h2 : oState o = 0 → ct1 (180 + i) = some (.inl (cy 0, 0, aD (fun _ => 0)))) (h3 : oState o ≠ 0 → ct1 (190 + i) = some (.inl (cy 0, (mst M (oS o)).1, aD (oBod o)))) : RepL0 cy ad1 ct1 (sOr M i o) := by
  obtain ⟨⟨a1, a2, a3, a4⟩, ⟨b1, b2⟩, c1, c2, c3, c4, c5, c6, c7⟩ := h
  obtain ⟨⟨hb1, hb2, hb3, hb4, hb5⟩, -, -, hk3, -, hk5⟩ := ho
  have g : ∀ j, j < 170 → ad1 j = ad j ∧ ct1 j = ct j := fun j hj => hx j (by omega) (by omega) (by omega)
  have hA : ∀ j, j ≠ 180 + i → j ≠ 190 + i → ad1 j = ad j := fun j a b => by
    by_cases e : j = 170 + i
    · rw [e]; exact hao
    · exact (hx j e a b).1
  refine ⟨⟨a1.mvg (g 0 (by omega)).1 (g _ (by omega)).1 (g _ (by omega)).2 (g _ (by omega)).2 (fun j hj => (g _ (by omega)).1), a2.mvg (g 0 (by omega)).1 (g _ (by omega)).1 (g _ (by omega)).2 (g _ (by omega)).2 (fun j hj => (g _ (by omega)).1), a3.mvg (g 0 (by omega)).1 (g _ (by omega)).1 (g _ (by omega)).2 (g _ (by omega)).2 (fun j hj => (g _ (by omega)).1), a4.mvg (g 0 (by omega)).1 (g _ (by omega)).1 (g _ (by omega)).2 (g _ (by omega)).2 (fun j hj => hA _ (by omega) (by omega))⟩, ⟨(g _ (by omega)).2.trans b1, (g _ (by omega)).2.trans b2⟩, fun j (hj : j < mC M) => (g _ (by omega)).2.trans (c1 j hj), fun j (hj : j < mP M) => (g _ (by omega)).2.trans (c2 j hj), fun j (hj : j < mS M) => ?_, fun j (hj : j < mS M) k hk => ?_, fun j (hj : j < mO M) => ?_, fun j (hj : j < mO M) => ?_, (g 0 (by omega)).2.trans c7⟩
  · have hz := (hk3 j hj).1
    exact (c3 j hj).mvg (g 0 (by omega)).1 (g _ (by omega)).1 (g _ (by omega)).2 (g _ (by omega)).2 (fun k hk => (g _ (by omega)).1)
  · have hz := (hk3 j hj).1
    have hk2 : k < (mst M j).1 := hk
    exact (g _ (by omega)).2.trans (c4 j hj k hk)
  · by_cases e : j = i
    · subst e
      show ct1 (170 + j) = some (rOr ad1 j (vf_upd (mod M) j o j))
      rw [vu_s]
      exact h1
    · show ct1 (170 + j) = some (rOr ad1 j (vf_upd (mod M) i o j))
      rw [vu_n e]
      refine (hx _ (by omega) (by omega) (by omega)).2.trans ((c5 j hj).trans (congrArg some ?_))
      have e9 : ad1 (if oState (mod M j) = 0 then 180 + j else 190 + j) = ad (if oState (mod M j) = 0 then 180 + j else 190 + j) := hA _ (by split <;> omega) (by split <;> omega)
      unfold rOr
      rw [e9]
  · by_cases e : j = i
    · subst e
      show (oState (vf_upd (mod M) j o j) = 0 → _) ∧ (oState (vf_upd (mod M) j o j) ≠ 0 → ct1 (190 + j) = some (.inl (cy 0, (mst M (oS (vf_upd (mod M) j o j))).1, aD (oBod (vf_upd (mod M) j o j)))))
      rw [vu_s]
      exact ⟨h2, h3⟩
    · show (oState (vf_upd (mod M) i o j) = 0 → _) ∧ (oState (vf_upd (mod M) i o j) ≠ 0 → ct1 (190 + j) = some (.inl (cy 0, (mst M (oS (vf_upd (mod M) i o j))).1, aD (oBod (vf_upd (mod M) i o j)))))
      rw [vu_n e]
      exact ⟨fun z => (hx _ (by omega) (by omega) (by omega)).2.trans ((c6 j hj).1 z), fun z => (hx _ (by omega) (by omega) (by omega)).2.trans ((c6 j hj).2 z)⟩
theorem RepL0_sCl {cy : Nat → ClassId} {ad ad1 : Nat → Nat} {ct ct1 : Nat → Option va_E} {M : tM} (h : RepL0 cy ad ct M) (ho : okM M) {i : Nat} (hi : i < mC M) (c : tCl) (hx : ∀ j, j < 200 → ad1 j = ad j ∧ (j ≠ 120 + i → ct1 j = ct j)) (h1 : ct1 (120 + i) = some (rCl c)) : RepL0 cy ad1 ct1 (sCl M i c) := by
  obtain ⟨⟨a1, a2, a3, a4⟩, ⟨b1, b2⟩, c1, c2, c3, c4, c5, c6, c7⟩ := h
  obtain ⟨⟨hb1, hb2, hb3, hb4, hb5⟩, -, -, hk3, -, hk5⟩ := ho
  have g : ∀ j, j < 200 → j ≠ 120 + i → ct1 j = ct j := fun j hj a => (hx j hj).2 a
  refine ⟨⟨a1.mvg (hx 0 (by omega)).1 (hx _ (by omega)).1 (g _ (by omega) (by omega)) (g _ (by omega) (by omega)) (fun j hj => (hx _ (by omega)).1), a2.mvg (hx 0 (by omega)).1 (hx _ (by omega)).1 (g _ (by omega) (by omega)) (g _ (by omega) (by omega)) (fun j hj => (hx _ (by omega)).1), a3.mvg (hx 0 (by omega)).1 (hx _ (by omega)).1 (g _ (by omega) (by omega)) (g _ (by omega) (by omega)) (fun j hj => (hx _ (by omega)).1), a4.mvg (hx 0 (by omega)).1 (hx _ (by omega)).1 (g _ (by omega) (by omega)) (g _ (by omega) (by omega)) (fun j hj => (hx _ (by omega)).1)⟩, ⟨(g _ (by omega) (by omega)).trans b1, (g _ (by omega) (by omega)).trans b2⟩, fun j (hj : j < mC M) => ?_, fun j (hj : j < mP M) => (g _ (by omega) (by omega)).trans (c2 j hj), fun j (hj : j < mS M) => ?_, fun j (hj : j < mS M) k hk => ?_, fun j (hj : j < mO M) => ?_, fun j (hj : j < mO M) => ⟨fun z => (g _ (by omega) (by omega)).trans ((c6 j hj).1 z), fun z => (g _ (by omega) (by omega)).trans ((c6 j hj).2 z)⟩, (g 0 (by omega) (by omega)).trans c7⟩
  · show ct1 (120 + j) = some (rCl (vf_upd (mcl M) i c j))
    by_cases e : j = i
    · subst e
      rw [vu_s]
      exact h1
    · rw [vu_n e]
      exact (g _ (by omega) (by omega)).trans (c1 j hj)
  · have hz := (hk3 j hj).1
    exact (c3 j hj).mvg (hx 0 (by omega)).1 (hx _ (by omega)).1 (g _ (by omega) (by omega)) (g _ (by omega) (by omega)) (fun k hk => (hx _ (by omega)).1)
  · have hz := (hk3 j hj).1
    have hk2 : k < (mst M j).1 := hk
    exact (g _ (by omega) (by omega)).trans (c4 j hj k hk)
  · refine (g _ (by omega) (by omega)).trans ((c5 j hj).trans (congrArg some ?_))
    have e9 : ad1 (if oState (mod M j) = 0 then 180 + j else 190 + j) = ad (if oState (mod M j) = 0 then 180 + j else 190 + j) := (hx _ (by split <;> omega)).1
    show rOr ad j (mod M j) = rOr ad1 j (mod M j)
    unfold rOr
    rw [e9]
theorem RepL0_sSh {cy : Nat → ClassId} {ad : Nat → Nat} {ct : Nat → Option va_E} {M : tM} (s : tSh) (h : RepL0 cy ad ct M) : RepL0 cy ad ct (sSh M s) := h
