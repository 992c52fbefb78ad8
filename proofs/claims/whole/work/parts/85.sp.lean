/-! what a call does: three refusals and an answer -/
section SPG
def spG {α : Type} (F1 F2 F3 : Prop) (S : α → tM → Prop) (M : tM) : Int32 → α → tM → Prop := fun k a M' => (F1 ∧ k = 1 ∧ M' = M) ∨ (F2 ∧ k = 2 ∧ M' = M) ∨ (F3 ∧ k = 3 ∧ M' = M) ∨ (k = 0 ∧ S a M')
theorem spG_ok {α : Type} {nb : Nat} {F1 F2 F3 : Prop} {S : α → tM → Prop} {M : tM} (h12 : F1 → F2 → False) (h13 : F1 → F3 → False) (h23 : F2 → F3 → False) (h1 : F1 → ∀ a M', S a M' → False) (h2 : F2 → ∀ a M', S a M' → False) (h3 : F3 → ∀ a M', S a M' → False) (hS : ∀ a M1 b M2, S a M1 → S b M2 → a = b ∧ M1 = M2) (hv : okM M ∧ okN (nb + 1) M ∧ okX M) (hw : ∀ a M1, S a M1 → okM M1 ∧ okN (nb + 1) M1 ∧ okX M1) : spOk nb (spG F1 F2 F3 S M) := by
  refine ⟨fun k a M1 k2 a2 M2 q r => ?_, fun k a M1 q => ?_⟩
  · rcases q with ⟨f, rfl, rfl⟩ | ⟨f, rfl, rfl⟩ | ⟨f, rfl, rfl⟩ | ⟨rfl, f⟩ <;> rcases r with ⟨g, rfl, rfl⟩ | ⟨g, rfl, rfl⟩ | ⟨g, rfl, rfl⟩ | ⟨rfl, g⟩
    · exact ⟨rfl, fun z => absurd z (by decide), rfl⟩
    · exact (h12 f g).elim
    · exact (h13 f g).elim
    · exact (h1 f _ _ g).elim
    · exact (h12 g f).elim
    · exact ⟨rfl, fun z => absurd z (by decide), rfl⟩
    · exact (h23 f g).elim
    · exact (h2 f _ _ g).elim
    · exact (h13 g f).elim
    · exact (h23 g f).elim
    · exact ⟨rfl, fun z => absurd z (by decide), rfl⟩
    · exact (h3 f _ _ g).elim
    · exact (h1 g _ _ f).elim
    · exact (h2 g _ _ f).elim
    · exact (h3 g _ _ f).elim
    · obtain ⟨q1, q2⟩ := hS _ _ _ _ f g
      exact ⟨rfl, fun _ => q1, q2⟩
  · rcases q with ⟨f, rfl, rfl⟩ | ⟨f, rfl, rfl⟩ | ⟨f, rfl, rfl⟩ | ⟨rfl, f⟩
    · exact hv
    · exact hv
    · exact hv
    · exact hw _ _ f
variable {cy : Nat → ClassId} {em nb : Nat} {M : tM} {ad : Nat → Nat} {ct : Nat → Option va_E} {F1 F2 F3 : Prop}
/-- a refusal's number -/
abbrev fX3 (F1 F2 F3 : Prop) (v : Option Value) : Prop := (F1 ∧ v = some (.int 1)) ∨ (F2 ∧ v = some (.int 2)) ∨ (F3 ∧ v = some (.int 3))
theorem oC_up (h0 : lI cy em nb M ad ct) {ad' : Nat → Nat} {ct1 : Nat → Option va_E} {MC : tM} {k : Nat} {ev : va_E} (hk : k = 90 ∨ k = 91) (hC : lC cy ad' ct1 MC ∧ kFr ad ad' ct ct1) (ho : okM MC) (h1 : ad' 1 = ad 1) : lC cy ad' (up ct1 k ev) MC ∧ lR cy ad' (up ct1 k ev) M ∧ kSm ad ad' :=
  ⟨hC.1.mv ho (fun j hj => ⟨rfl, up_n (by omega)⟩), h0.2.1.mv h0.2.2.1 (fun j hj => ⟨(hC.2 j (by omega)).1, (up_n (by omega)).trans (hC.2 j (by omega)).2⟩), (hC.2 0 (by omega)).1, h1, (hC.2 100 (by omega)).1, (hC.2 90 (by omega)).1, (hC.2 91 (by omega)).1⟩
theorem oCi_of (h0 : lI cy em nb M ad ct) {fo : Nat → Int64} {fd : Nat → UInt64} (hou : kOu cy ct fo fd) {Post : kPT} {FX : Option Value → Prop} {S : Int32 → tM → Prop} (hP : ∀ a ad' ct1, Post (some (.int a)) ad' ct1 → ∃ MC, (lC cy ad' ct1 MC ∧ kFr ad ad' ct ct1) ∧ okM MC ∧ ad' 1 = ad 1 ∧ S a MC) (hX : ∀ v, FX v → fX3 F1 F2 F3 v) (v : Option Value) (ad' : Nat → Nat) (ct' : Nat → Option va_E)
    (hp : (∃ (a : Int32) (ct1 : Nat → Option va_E), Post (some (.int a)) ad' ct1 ∧ v = some (.int 0) ∧ ct' = up ct1 90 (.inl (cy 3, 1, aL (vp_updL fo 0 a.toInt64)))) ∨ (FX v ∧ ad' = ad ∧ ct' = ct)) : oCi cy ad M (spG F1 F2 F3 S M) v ad' ct' := by
  rcases hp with ⟨a, ct1, hpo, rfl, rfl⟩ | ⟨hx, rfl, rfl⟩
  · obtain ⟨MC, hC, ho, h1, hs⟩ := hP a ad' ct1 hpo
    obtain ⟨q1, q2, q3⟩ := oC_up (ev := .inl (cy 3, 1, aL (vp_updL fo 0 a.toInt64))) h0 (Or.inl rfl) hC ho h1
    exact ⟨0, a, MC, vp_updL fo 0 a.toInt64, fd, rfl, q1, q2, q3, ⟨up_s, (up_n (by omega)).trans ((hC.2 91 (by omega)).2.trans hou.2)⟩, fun _ => by unfold vp_updL; exact if_pos rfl, Or.inr (Or.inr (Or.inr ⟨rfl, hs⟩))⟩
  · rcases hX v hx with ⟨f, rfl⟩ | ⟨f, rfl⟩ | ⟨f, rfl⟩
    · exact ⟨1, 0, M, fo, fd, rfl, h0.1, h0.2.1, kSm.rf, hou, fun z => absurd z (by decide), Or.inl ⟨f, rfl, rfl⟩⟩
    · exact ⟨2, 0, M, fo, fd, rfl, h0.1, h0.2.1, kSm.rf, hou, fun z => absurd z (by decide), Or.inr (Or.inl ⟨f, rfl, rfl⟩)⟩
    · exact ⟨3, 0, M, fo, fd, rfl, h0.1, h0.2.1, kSm.rf, hou, fun z => absurd z (by decide), Or.inr (Or.inr (Or.inl ⟨f, rfl, rfl⟩))⟩
theorem oCd_of (h0 : lI cy em nb M ad ct) {fo : Nat → Int64} {fd : Nat → UInt64} (hou : kOu cy ct fo fd) {Post : kPT} {FX : Option Value → Prop} {S : UInt64 → tM → Prop} (hP : ∀ a ad' ct1, Post (some (.double a)) ad' ct1 → ∃ MC, (lC cy ad' ct1 MC ∧ kFr ad ad' ct ct1) ∧ okM MC ∧ ad' 1 = ad 1 ∧ S a MC) (hX : ∀ v, FX v → fX3 F1 F2 F3 v) (v : Option Value) (ad' : Nat → Nat) (ct' : Nat → Option va_E)
    (hp : (∃ (a : UInt64) (ct1 : Nat → Option va_E), Post (some (.double a)) ad' ct1 ∧ v = some (.int 0) ∧ ct' = up ct1 91 (.inl (cy 0, 1, aD (vf_upd fd 0 a)))) ∨ (FX v ∧ ad' = ad ∧ ct' = ct)) : oCd cy ad M (spG F1 F2 F3 S M) v ad' ct' := by
  rcases hp with ⟨a, ct1, hpo, rfl, rfl⟩ | ⟨hx, rfl, rfl⟩
  · obtain ⟨MC, hC, ho, h1, hs⟩ := hP a ad' ct1 hpo
    obtain ⟨q1, q2, q3⟩ := oC_up (ev := .inl (cy 0, 1, aD (vf_upd fd 0 a))) h0 (Or.inr rfl) hC ho h1
    exact ⟨0, a, MC, fo, vf_upd fd 0 a, rfl, q1, q2, q3, ⟨(up_n (by omega)).trans ((hC.2 90 (by omega)).2.trans hou.1), up_s⟩, fun _ => vu_s, Or.inr (Or.inr (Or.inr ⟨rfl, hs⟩))⟩
  · rcases hX v hx with ⟨f, rfl⟩ | ⟨f, rfl⟩ | ⟨f, rfl⟩
    · exact ⟨1, 0, M, fo, fd, rfl, h0.1, h0.2.1, kSm.rf, hou, fun z => absurd z (by decide), Or.inl ⟨f, rfl, rfl⟩⟩
    · exact ⟨2, 0, M, fo, fd, rfl, h0.1, h0.2.1, kSm.rf, hou, fun z => absurd z (by decide), Or.inr (Or.inl ⟨f, rfl, rfl⟩)⟩
    · exact ⟨3, 0, M, fo, fd, rfl, h0.1, h0.2.1, kSm.rf, hou, fun z => absurd z (by decide), Or.inr (Or.inr (Or.inl ⟨f, rfl, rfl⟩))⟩
/-- the reference: refused, or done -/
theorem oRi_no (h : lR cy ad ct M) {S : Int32 → tM → Prop} {b th : Int32} {sm : Int64} {ct' : Nat → Option va_E} (h1 : ct' 100 = some (oMod ad M th sm)) (hk : ∀ k, k ≠ 100 → ct' k = ct k) (hF : (F1 ∧ th = 1) ∨ (F2 ∧ th = 2) ∨ (F3 ∧ th = 3)) : oRi cy ad ct (spG F1 F2 F3 S M) (some (.int b)) ad ct' :=
  ⟨b, th, sm, M, rfl, h1, h.th h1 hk, fun j hj => ⟨rfl, hk j (by omega)⟩, rfl, hF.elim (fun z => Or.inl ⟨z.1, z.2, rfl⟩) (fun z => z.elim (fun z => Or.inr (Or.inl ⟨z.1, z.2, rfl⟩)) (fun z => Or.inr (Or.inr (Or.inl ⟨z.1, z.2, rfl⟩))))⟩
theorem oRi_yes {S : Int32 → tM → Prop} {b : Int32} {sm : Int64} {ad' : Nat → Nat} {ct' : Nat → Option va_E} {MR : tM} (h1 : ct' 100 = some (oMod ad' MR 0 sm)) (h : lR cy ad' ct' MR) (hk : kFl ad ad' ct ct') (h100 : ad' 100 = ad 100) (hs : S b MR) : oRi cy ad ct (spG F1 F2 F3 S M) (some (.int b)) ad' ct' :=
  ⟨b, 0, sm, MR, rfl, h1, h, hk, h100, Or.inr (Or.inr (Or.inr ⟨rfl, hs⟩))⟩
theorem oRd_no (h : lR cy ad ct M) {S : UInt64 → tM → Prop} {b : UInt64} {th : Int32} {sm : Int64} {ct' : Nat → Option va_E} (h1 : ct' 100 = some (oMod ad M th sm)) (hk : ∀ k, k ≠ 100 → ct' k = ct k) (hF : (F1 ∧ th = 1) ∨ (F2 ∧ th = 2) ∨ (F3 ∧ th = 3)) : oRd cy ad ct (spG F1 F2 F3 S M) (some (.double b)) ad ct' :=
  ⟨b, th, sm, M, rfl, h1, h.th h1 hk, fun j hj => ⟨rfl, hk j (by omega)⟩, rfl, hF.elim (fun z => Or.inl ⟨z.1, z.2, rfl⟩) (fun z => z.elim (fun z => Or.inr (Or.inl ⟨z.1, z.2, rfl⟩)) (fun z => Or.inr (Or.inr (Or.inl ⟨z.1, z.2, rfl⟩))))⟩
theorem oRd_yes {S : UInt64 → tM → Prop} {b : UInt64} {sm : Int64} {ad' : Nat → Nat} {ct' : Nat → Option va_E} {MR : tM} (h1 : ct' 100 = some (oMod ad' MR 0 sm)) (h : lR cy ad' ct' MR) (hk : kFl ad ad' ct ct') (h100 : ad' 100 = ad 100) (hs : S b MR) : oRd cy ad ct (spG F1 F2 F3 S M) (some (.double b)) ad' ct' :=
  ⟨b, 0, sm, MR, rfl, h1, h, hk, h100, Or.inr (Or.inr (Or.inr ⟨rfl, hs⟩))⟩
theorem lI.inv {nb nb' : Nat} (h : lI cy em nb M ad ct) (hb : nb ≤ nb') : okM M ∧ okN nb' M ∧ okX M := ⟨h.2.2.1, h.2.2.2.1.mono hb, h.2.2.2.2.1⟩
end SPG
