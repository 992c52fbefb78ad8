/-! the wrappers, as what a call does -/
set_option maxHeartbeats 1000000 in
theorem V_cloth {l : Launch} {D : va_G} {cy : Nat → ClassId} {sad : Nat → Nat} {em : Nat} {s0 : State} {a0 : Array Value} (G : kG kSTR l D cy sad em s0 a0) (N3 : kN3 s0) {nb : Nat} {M : tM} {ad : Nat → Nat} {ct : Nat → Option va_E} (h0 : lI cy em nb M ad ct) {Post : kPT} {PX : String → Prop} {x1 : Int32} {x2 : Int32} {x3 : Int32} {x4 : Int32} {x5 : Int32} {x6 : Int32} (hM : KX l yX7_cloth [.code yX7_cloth prog_1_method_2_code 7 (some .int)] 6 90 2 12 [.ref (ad 1), .int x1, .int x2, .int x3, .int x4, .int x5, .int x6] D s0 ad ct Post PX) {F1 F2 : Prop} {S : Int32 → tM → Prop}
    (hP : ∀ v ad' ct1, Post v ad' ct1 → ∃ (a : Int32) (MC : tM), v = some (.int a) ∧ (lC cy ad' ct1 MC ∧ kFr ad ad' ct ct1) ∧ okM MC ∧ ad' 1 = ad 1 ∧ S a MC) (hX : ∀ E, PX E → (E = eArg ∧ F1) ∨ (E = eSta ∧ F2)) :
    KM l yL_cloth [.codeWith yL_cloth method_3_code 9 (some .int) [(0, 18, 21, 13), (0, 18, 25, 15)]] 7 116 2 12 [.ref (ad 1), .int x1, .int x2, .int x3, .int x4, .int x5, .int x6, .ref (ad 90)] D s0 ad ct (oCi cy ad M (spG F1 F2 False S M)) := by
  obtain ⟨hlc, hlr, ho, hN, hX9, hem, ⟨fo, h90⟩, fd, h91⟩ := id h0
  have hR : ∀ v ad' ct', Post v ad' ct' → ∃ a : Int32, v = some (.int a) := fun v ad' ct' h => by
    obtain ⟨a, MC, e, -⟩ := hP v ad' ct' h
    exact ⟨a, e⟩
  have hO : ∀ v ad' ct', Post v ad' ct' → ad' 90 = ad 90 ∧ ct' 90 = some (.inl (cy 3, 1, aL fo)) := fun v ad' ct' h => by
    obtain ⟨a, MC, e, hC, -⟩ := hP v ad' ct' h
    exact ⟨(hC.2 90 (by omega)).1, (hC.2 90 (by omega)).2.trans h90⟩
  refine KM.mono (w_cloth G N3 hM (fun E h => (hX E h).imp (·.1) (·.1)) hR hO hlc.1.1) (oCi_of (Post := Post) (FX := fun v => (PX eArg ∧ v = some (.int 1)) ∨ (PX eSta ∧ v = some (.int 2))) h0 ⟨h90, h91⟩ (fun a ad' ct1 h => ?_) (fun v h => ?_))
  · obtain ⟨a2, MC, e, hC, ho, h1, hs⟩ := hP _ ad' ct1 h
    cases e
    exact ⟨MC, hC, ho, h1, hs⟩
  · rcases h with ⟨h, hv⟩ | ⟨h, hv⟩
    · exact Or.inl ⟨(hX _ h).elim (·.2) (fun z => absurd z.1 (by decide)), hv⟩
    · exact Or.inr (Or.inl ⟨(hX _ h).elim (fun z => absurd z.1 (by decide)) (·.2), hv⟩)
set_option maxHeartbeats 1000000 in
theorem V_wash {l : Launch} {D : va_G} {cy : Nat → ClassId} {sad : Nat → Nat} {em : Nat} {s0 : State} {a0 : Array Value} (G : kG kSTR l D cy sad em s0 a0) (N3 : kN3 s0) {nb : Nat} {M : tM} {ad : Nat → Nat} {ct : Nat → Option va_E} (h0 : lI cy em nb M ad ct) {Post : kPT} {PX : String → Prop} {x1 : Int32} (hM : KX l yX7_wash [.code yX7_wash prog_1_method_3_code 5 (some .double)] 7 120 2 12 [.ref (ad 1), .int x1] D s0 ad ct Post PX) {F1 : Prop} {S : UInt64 → tM → Prop}
    (hP : ∀ v ad' ct1, Post v ad' ct1 → ∃ (a : UInt64) (MC : tM), v = some (.double a) ∧ (lC cy ad' ct1 MC ∧ kFr ad ad' ct ct1) ∧ okM MC ∧ ad' 1 = ad 1 ∧ S a MC) (hX : ∀ E, PX E → E = eIdx ∧ F1) :
    KM l yL_wash [.codeWith yL_wash method_4_code 4 (some .int) [(0, 8, 11, 21)]] 8 144 2 12 [.ref (ad 1), .int x1, .ref (ad 91)] D s0 ad ct (oCd cy ad M (spG F1 False False S M)) := by
  obtain ⟨hlc, hlr, ho, hN, hX9, hem, ⟨fo, h90⟩, fd, h91⟩ := id h0
  have hR : ∀ v ad' ct', Post v ad' ct' → ∃ a : UInt64, v = some (.double a) := fun v ad' ct' h => by
    obtain ⟨a, MC, e, -⟩ := hP v ad' ct' h
    exact ⟨a, e⟩
  have hO : ∀ v ad' ct', Post v ad' ct' → ad' 91 = ad 91 ∧ ct' 91 = some (.inl (cy 0, 1, aD fd)) := fun v ad' ct' h => by
    obtain ⟨a, MC, e, hC, -⟩ := hP v ad' ct' h
    exact ⟨(hC.2 91 (by omega)).1, (hC.2 91 (by omega)).2.trans h91⟩
  refine KM.mono (w_wash G N3 hM (fun E h => (hX E h).1) hR hO hlc.1.1) (oCd_of (Post := Post) (FX := fun v => (PX eIdx ∧ v = some (.int 1))) h0 ⟨h90, h91⟩ (fun a ad' ct1 h => ?_) (fun v h => ?_))
  · obtain ⟨a2, MC, e, hC, ho, h1, hs⟩ := hP _ ad' ct1 h
    cases e
    exact ⟨MC, hC, ho, h1, hs⟩
  · exact Or.inl ⟨(hX _ h.1).2, h.2⟩
set_option maxHeartbeats 1000000 in
theorem V_person {l : Launch} {D : va_G} {cy : Nat → ClassId} {sad : Nat → Nat} {em : Nat} {s0 : State} {a0 : Array Value} (G : kG kSTR l D cy sad em s0 a0) (N3 : kN3 s0) {nb : Nat} {M : tM} {ad : Nat → Nat} {ct : Nat → Option va_E} (h0 : lI cy em nb M ad ct) {Post : kPT} {PX : String → Prop} {x1 : Int32} {x2 : Int32} {x3 : Int32} {x4 : Int32} (hM : KX l yX7_person [.code yX7_person prog_1_method_4_code 5 (some .int)] 6 90 2 12 [.ref (ad 1), .int x1, .int x2, .int x3, .int x4] D s0 ad ct Post PX) {F1 F2 : Prop} {S : Int32 → tM → Prop}
    (hP : ∀ v ad' ct1, Post v ad' ct1 → ∃ (a : Int32) (MC : tM), v = some (.int a) ∧ (lC cy ad' ct1 MC ∧ kFr ad ad' ct ct1) ∧ okM MC ∧ ad' 1 = ad 1 ∧ S a MC) (hX : ∀ E, PX E → (E = eArg ∧ F1) ∨ (E = eSta ∧ F2)) :
    KM l yL_person [.codeWith yL_person method_5_code 7 (some .int) [(0, 14, 17, 13), (0, 14, 21, 15)]] 7 114 2 12 [.ref (ad 1), .int x1, .int x2, .int x3, .int x4, .ref (ad 90)] D s0 ad ct (oCi cy ad M (spG F1 F2 False S M)) := by
  obtain ⟨hlc, hlr, ho, hN, hX9, hem, ⟨fo, h90⟩, fd, h91⟩ := id h0
  have hR : ∀ v ad' ct', Post v ad' ct' → ∃ a : Int32, v = some (.int a) := fun v ad' ct' h => by
    obtain ⟨a, MC, e, -⟩ := hP v ad' ct' h
    exact ⟨a, e⟩
  have hO : ∀ v ad' ct', Post v ad' ct' → ad' 90 = ad 90 ∧ ct' 90 = some (.inl (cy 3, 1, aL fo)) := fun v ad' ct' h => by
    obtain ⟨a, MC, e, hC, -⟩ := hP v ad' ct' h
    exact ⟨(hC.2 90 (by omega)).1, (hC.2 90 (by omega)).2.trans h90⟩
  refine KM.mono (w_person G N3 hM (fun E h => (hX E h).imp (·.1) (·.1)) hR hO hlc.1.1) (oCi_of (Post := Post) (FX := fun v => (PX eArg ∧ v = some (.int 1)) ∨ (PX eSta ∧ v = some (.int 2))) h0 ⟨h90, h91⟩ (fun a ad' ct1 h => ?_) (fun v h => ?_))
  · obtain ⟨a2, MC, e, hC, ho, h1, hs⟩ := hP _ ad' ct1 h
    cases e
    exact ⟨MC, hC, ho, h1, hs⟩
  · rcases h with ⟨h, hv⟩ | ⟨h, hv⟩
    · exact Or.inl ⟨(hX _ h).elim (·.2) (fun z => absurd z.1 (by decide)), hv⟩
    · exact Or.inr (Or.inl ⟨(hX _ h).elim (fun z => absurd z.1 (by decide)) (·.2), hv⟩)
set_option maxHeartbeats 1000000 in
theorem V_measure {l : Launch} {D : va_G} {cy : Nat → ClassId} {sad : Nat → Nat} {em : Nat} {s0 : State} {a0 : Array Value} (G : kG kSTR l D cy sad em s0 a0) (N3 : kN3 s0) {nb : Nat} {M : tM} {ad : Nat → Nat} {ct : Nat → Option va_E} (h0 : lI cy em nb M ad ct) {Post : kPT} {PX : String → Prop} {x1 : Int32} {x2 : Int32} {x3 : Int32} (hM : KX l yX7_measure [.code yX7_measure prog_1_method_5_code 6 (some .int)] 7 120 2 12 [.ref (ad 1), .int x1, .int x2, .int x3] D s0 ad ct Post PX) {F1 F2 : Prop} {S : Int32 → tM → Prop}
    (hP : ∀ v ad' ct1, Post v ad' ct1 → ∃ (a : Int32) (MC : tM), v = some (.int a) ∧ (lC cy ad' ct1 MC ∧ kFr ad ad' ct ct1) ∧ okM MC ∧ ad' 1 = ad 1 ∧ S a MC) (hX : ∀ E, PX E → (E = eIdx ∧ F1) ∨ (E = eArg ∧ F2)) :
    KM l yL_measure [.codeWith yL_measure method_6_code 6 (some .int) [(0, 12, 15, 21), (0, 12, 19, 13)]] 8 145 2 12 [.ref (ad 1), .int x1, .int x2, .int x3, .ref (ad 90)] D s0 ad ct (oCi cy ad M (spG F1 F2 False S M)) := by
  obtain ⟨hlc, hlr, ho, hN, hX9, hem, ⟨fo, h90⟩, fd, h91⟩ := id h0
  have hR : ∀ v ad' ct', Post v ad' ct' → ∃ a : Int32, v = some (.int a) := fun v ad' ct' h => by
    obtain ⟨a, MC, e, -⟩ := hP v ad' ct' h
    exact ⟨a, e⟩
  have hO : ∀ v ad' ct', Post v ad' ct' → ad' 90 = ad 90 ∧ ct' 90 = some (.inl (cy 3, 1, aL fo)) := fun v ad' ct' h => by
    obtain ⟨a, MC, e, hC, -⟩ := hP v ad' ct' h
    exact ⟨(hC.2 90 (by omega)).1, (hC.2 90 (by omega)).2.trans h90⟩
  refine KM.mono (w_measure G N3 hM (fun E h => (hX E h).imp (·.1) (·.1)) hR hO hlc.1.1) (oCi_of (Post := Post) (FX := fun v => (PX eIdx ∧ v = some (.int 1)) ∨ (PX eArg ∧ v = some (.int 2))) h0 ⟨h90, h91⟩ (fun a ad' ct1 h => ?_) (fun v h => ?_))
  · obtain ⟨a2, MC, e, hC, ho, h1, hs⟩ := hP _ ad' ct1 h
    cases e
    exact ⟨MC, hC, ho, h1, hs⟩
  · rcases h with ⟨h, hv⟩ | ⟨h, hv⟩
    · exact Or.inl ⟨(hX _ h).elim (·.2) (fun z => absurd z.1 (by decide)), hv⟩
    · exact Or.inr (Or.inl ⟨(hX _ h).elim (fun z => absurd z.1 (by decide)) (·.2), hv⟩)
set_option maxHeartbeats 1000000 in
theorem V_style {l : Launch} {D : va_G} {cy : Nat → ClassId} {sad : Nat → Nat} {em : Nat} {s0 : State} {a0 : Array Value} (G : kG kSTR l D cy sad em s0 a0) (N3 : kN3 s0) {nb : Nat} {M : tM} {ad : Nat → Nat} {ct : Nat → Option va_E} (h0 : lI cy em nb M ad ct) {Post : kPT} {PX : String → Prop} (hM : KX l yX7_style [.code yX7_style prog_1_method_6_code 1 (some .int)] 6 90 2 12 [.ref (ad 1)] D s0 ad ct Post PX) {F1 : Prop} {S : Int32 → tM → Prop}
    (hP : ∀ v ad' ct1, Post v ad' ct1 → ∃ (a : Int32) (MC : tM), v = some (.int a) ∧ (lC cy ad' ct1 MC ∧ kFr ad ad' ct ct1) ∧ okM MC ∧ ad' 1 = ad 1 ∧ S a MC) (hX : ∀ E, PX E → E = eSta ∧ F1) :
    KM l yL_style [.codeWith yL_style method_7_code 3 (some .int) [(0, 8, 11, 15)]] 7 110 2 12 [.ref (ad 1), .ref (ad 90)] D s0 ad ct (oCi cy ad M (spG F1 False False S M)) := by
  obtain ⟨hlc, hlr, ho, hN, hX9, hem, ⟨fo, h90⟩, fd, h91⟩ := id h0
  have hR : ∀ v ad' ct', Post v ad' ct' → ∃ a : Int32, v = some (.int a) := fun v ad' ct' h => by
    obtain ⟨a, MC, e, -⟩ := hP v ad' ct' h
    exact ⟨a, e⟩
  have hO : ∀ v ad' ct', Post v ad' ct' → ad' 90 = ad 90 ∧ ct' 90 = some (.inl (cy 3, 1, aL fo)) := fun v ad' ct' h => by
    obtain ⟨a, MC, e, hC, -⟩ := hP v ad' ct' h
    exact ⟨(hC.2 90 (by omega)).1, (hC.2 90 (by omega)).2.trans h90⟩
  refine KM.mono (w_style G N3 hM (fun E h => (hX E h).1) hR hO hlc.1.1) (oCi_of (Post := Post) (FX := fun v => (PX eSta ∧ v = some (.int 1))) h0 ⟨h90, h91⟩ (fun a ad' ct1 h => ?_) (fun v h => ?_))
  · obtain ⟨a2, MC, e, hC, ho, h1, hs⟩ := hP _ ad' ct1 h
    cases e
    exact ⟨MC, hC, ho, h1, hs⟩
  · exact Or.inl ⟨(hX _ h.1).2, h.2⟩
set_option maxHeartbeats 1000000 in
theorem V_piece {l : Launch} {D : va_G} {cy : Nat → ClassId} {sad : Nat → Nat} {em : Nat} {s0 : State} {a0 : Array Value} (G : kG kSTR l D cy sad em s0 a0) (N3 : kN3 s0) {nb : Nat} {M : tM} {ad : Nat → Nat} {ct : Nat → Option va_E} (h0 : lI cy em nb M ad ct) {Post : kPT} {PX : String → Prop} {x1 : Int32} {x2 : Int32} {x3 : Int32} {x4 : Int32} {x5 : Int32} (hM : KX l yX7_piece [.code yX7_piece prog_1_method_7_code 7 (some .int)] 7 120 2 12 [.ref (ad 1), .int x1, .int x2, .int x3, .int x4, .int x5] D s0 ad ct Post PX) {F1 F2 F3 : Prop} {S : Int32 → tM → Prop}
    (hP : ∀ v ad' ct1, Post v ad' ct1 → ∃ (a : Int32) (MC : tM), v = some (.int a) ∧ (lC cy ad' ct1 MC ∧ kFr ad ad' ct ct1) ∧ okM MC ∧ ad' 1 = ad 1 ∧ S a MC) (hX : ∀ E, PX E → (E = eIdx ∧ F1) ∨ (E = eArg ∧ F2) ∨ (E = eSta ∧ F3)) :
    KM l yL_piece [.codeWith yL_piece method_8_code 8 (some .int) [(0, 16, 19, 21), (0, 16, 23, 13), (0, 16, 27, 15)]] 8 146 2 12 [.ref (ad 1), .int x1, .int x2, .int x3, .int x4, .int x5, .ref (ad 90)] D s0 ad ct (oCi cy ad M (spG F1 F2 F3 S M)) := by
  obtain ⟨hlc, hlr, ho, hN, hX9, hem, ⟨fo, h90⟩, fd, h91⟩ := id h0
  have hR : ∀ v ad' ct', Post v ad' ct' → ∃ a : Int32, v = some (.int a) := fun v ad' ct' h => by
    obtain ⟨a, MC, e, -⟩ := hP v ad' ct' h
    exact ⟨a, e⟩
  have hO : ∀ v ad' ct', Post v ad' ct' → ad' 90 = ad 90 ∧ ct' 90 = some (.inl (cy 3, 1, aL fo)) := fun v ad' ct' h => by
    obtain ⟨a, MC, e, hC, -⟩ := hP v ad' ct' h
    exact ⟨(hC.2 90 (by omega)).1, (hC.2 90 (by omega)).2.trans h90⟩
  refine KM.mono (w_piece G N3 hM (fun E h => (hX E h).imp (·.1) (·.imp (·.1) (·.1))) hR hO hlc.1.1) (oCi_of (Post := Post) (FX := fun v => (PX eIdx ∧ v = some (.int 1)) ∨ (PX eArg ∧ v = some (.int 2)) ∨ (PX eSta ∧ v = some (.int 3))) h0 ⟨h90, h91⟩ (fun a ad' ct1 h => ?_) (fun v h => ?_))
  · obtain ⟨a2, MC, e, hC, ho, h1, hs⟩ := hP _ ad' ct1 h
    cases e
    exact ⟨MC, hC, ho, h1, hs⟩
  · rcases h with ⟨h, hv⟩ | ⟨h, hv⟩ | ⟨h, hv⟩
    · exact Or.inl ⟨(hX _ h).elim (·.2) (fun z => z.elim (fun z => absurd z.1 (by decide)) (fun z => absurd z.1 (by decide))), hv⟩
    · exact Or.inr (Or.inl ⟨(hX _ h).elim (fun z => absurd z.1 (by decide)) (fun z => z.elim (·.2) (fun z => absurd z.1 (by decide))), hv⟩)
    · exact Or.inr (Or.inr ⟨(hX _ h).elim (fun z => absurd z.1 (by decide)) (fun z => z.elim (fun z => absurd z.1 (by decide)) (·.2)), hv⟩)
set_option maxHeartbeats 1000000 in
theorem V_hand {l : Launch} {D : va_G} {cy : Nat → ClassId} {sad : Nat → Nat} {em : Nat} {s0 : State} {a0 : Array Value} (G : kG kSTR l D cy sad em s0 a0) (N3 : kN3 s0) {nb : Nat} {M : tM} {ad : Nat → Nat} {ct : Nat → Option va_E} (h0 : lI cy em nb M ad ct) {Post : kPT} {PX : String → Prop} {x1 : Int32} (hM : KX l yX7_hand [.code yX7_hand prog_1_method_8_code 2 (some .int)] 6 90 2 12 [.ref (ad 1), .int x1] D s0 ad ct Post PX) {F1 F2 : Prop} {S : Int32 → tM → Prop}
    (hP : ∀ v ad' ct1, Post v ad' ct1 → ∃ (a : Int32) (MC : tM), v = some (.int a) ∧ (lC cy ad' ct1 MC ∧ kFr ad ad' ct ct1) ∧ okM MC ∧ ad' 1 = ad 1 ∧ S a MC) (hX : ∀ E, PX E → (E = eArg ∧ F1) ∨ (E = eSta ∧ F2)) :
    KM l yL_hand [.codeWith yL_hand method_9_code 4 (some .int) [(0, 9, 12, 13), (0, 9, 15, 15)]] 7 111 2 12 [.ref (ad 1), .int x1, .ref (ad 90)] D s0 ad ct (oCi cy ad M (spG F1 F2 False S M)) := by
  obtain ⟨hlc, hlr, ho, hN, hX9, hem, ⟨fo, h90⟩, fd, h91⟩ := id h0
  have hR : ∀ v ad' ct', Post v ad' ct' → ∃ a : Int32, v = some (.int a) := fun v ad' ct' h => by
    obtain ⟨a, MC, e, -⟩ := hP v ad' ct' h
    exact ⟨a, e⟩
  have hO : ∀ v ad' ct', Post v ad' ct' → ad' 90 = ad 90 ∧ ct' 90 = some (.inl (cy 3, 1, aL fo)) := fun v ad' ct' h => by
    obtain ⟨a, MC, e, hC, -⟩ := hP v ad' ct' h
    exact ⟨(hC.2 90 (by omega)).1, (hC.2 90 (by omega)).2.trans h90⟩
  refine KM.mono (w_hand G N3 hM (fun E h => (hX E h).imp (·.1) (·.1)) hR hO hlc.1.1) (oCi_of (Post := Post) (FX := fun v => (PX eArg ∧ v = some (.int 1)) ∨ (PX eSta ∧ v = some (.int 2))) h0 ⟨h90, h91⟩ (fun a ad' ct1 h => ?_) (fun v h => ?_))
  · obtain ⟨a2, MC, e, hC, ho, h1, hs⟩ := hP _ ad' ct1 h
    cases e
    exact ⟨MC, hC, ho, h1, hs⟩
  · rcases h with ⟨h, hv⟩ | ⟨h, hv⟩
    · exact Or.inl ⟨(hX _ h).elim (·.2) (fun z => absurd z.1 (by decide)), hv⟩
    · exact Or.inr (Or.inl ⟨(hX _ h).elim (fun z => absurd z.1 (by decide)) (·.2), hv⟩)
set_option maxHeartbeats 1000000 in
theorem V_order {l : Launch} {D : va_G} {cy : Nat → ClassId} {sad : Nat → Nat} {em : Nat} {s0 : State} {a0 : Array Value} (G : kG kSTR l D cy sad em s0 a0) (N3 : kN3 s0) {nb : Nat} {M : tM} {ad : Nat → Nat} {ct : Nat → Option va_E} (h0 : lI cy em nb M ad ct) {Post : kPT} {PX : String → Prop} {x1 : Int32} {x2 : Int32} {x3 : Int32} (hM : KX l yX7_order [.code yX7_order prog_1_method_9_code 6 (some .int)] 7 120 4 27 [.ref (ad 1), .int x1, .int x2, .int x3] D s0 ad ct Post PX) {F1 F2 F3 : Prop} {S : Int32 → tM → Prop}
    (hP : ∀ v ad' ct1, Post v ad' ct1 → ∃ (a : Int32) (MC : tM), v = some (.int a) ∧ (lC cy ad' ct1 MC ∧ kFr ad ad' ct ct1) ∧ okM MC ∧ ad' 1 = ad 1 ∧ S a MC) (hX : ∀ E, PX E → (E = eIdx ∧ F1) ∨ (E = eArg ∧ F2) ∨ (E = eSta ∧ F3)) :
    KM l yL_order [.codeWith yL_order method_10_code 6 (some .int) [(0, 12, 15, 21), (0, 12, 19, 13), (0, 12, 23, 15)]] 8 145 4 27 [.ref (ad 1), .int x1, .int x2, .int x3, .ref (ad 90)] D s0 ad ct (oCi cy ad M (spG F1 F2 F3 S M)) := by
  obtain ⟨hlc, hlr, ho, hN, hX9, hem, ⟨fo, h90⟩, fd, h91⟩ := id h0
  have hR : ∀ v ad' ct', Post v ad' ct' → ∃ a : Int32, v = some (.int a) := fun v ad' ct' h => by
    obtain ⟨a, MC, e, -⟩ := hP v ad' ct' h
    exact ⟨a, e⟩
  have hO : ∀ v ad' ct', Post v ad' ct' → ad' 90 = ad 90 ∧ ct' 90 = some (.inl (cy 3, 1, aL fo)) := fun v ad' ct' h => by
    obtain ⟨a, MC, e, hC, -⟩ := hP v ad' ct' h
    exact ⟨(hC.2 90 (by omega)).1, (hC.2 90 (by omega)).2.trans h90⟩
  refine KM.mono (w_order G N3 hM (fun E h => (hX E h).imp (·.1) (·.imp (·.1) (·.1))) hR hO hlc.1.1) (oCi_of (Post := Post) (FX := fun v => (PX eIdx ∧ v = some (.int 1)) ∨ (PX eArg ∧ v = some (.int 2)) ∨ (PX eSta ∧ v = some (.int 3))) h0 ⟨h90, h91⟩ (fun a ad' ct1 h => ?_) (fun v h => ?_))
  · obtain ⟨a2, MC, e, hC, ho, h1, hs⟩ := hP _ ad' ct1 h
    cases e
    exact ⟨MC, hC, ho, h1, hs⟩
  · rcases h with ⟨h, hv⟩ | ⟨h, hv⟩ | ⟨h, hv⟩
    · exact Or.inl ⟨(hX _ h).elim (·.2) (fun z => z.elim (fun z => absurd z.1 (by decide)) (fun z => absurd z.1 (by decide))), hv⟩
    · exact Or.inr (Or.inl ⟨(hX _ h).elim (fun z => absurd z.1 (by decide)) (fun z => z.elim (·.2) (fun z => absurd z.1 (by decide))), hv⟩)
    · exact Or.inr (Or.inr ⟨(hX _ h).elim (fun z => absurd z.1 (by decide)) (fun z => z.elim (fun z => absurd z.1 (by decide)) (·.2)), hv⟩)
set_option maxHeartbeats 1000000 in
theorem V_cut {l : Launch} {D : va_G} {cy : Nat → ClassId} {sad : Nat → Nat} {em : Nat} {s0 : State} {a0 : Array Value} (G : kG kSTR l D cy sad em s0 a0) (N3 : kN3 s0) {nb : Nat} {M : tM} {ad : Nat → Nat} {ct : Nat → Option va_E} (h0 : lI cy em nb M ad ct) {Post : kPT} {PX : String → Prop} {x1 : Int32} {x2 : Int32} {x3 : Int32} (hM : KX l yX7_cut [.code yX7_cut prog_1_method_10_code 10 (some .double)] 8 150 5 30 [.ref (ad 1), .int x1, .int x2, .int x3] D s0 ad ct Post PX) {F1 F2 F3 : Prop} {S : UInt64 → tM → Prop}
    (hP : ∀ v ad' ct1, Post v ad' ct1 → ∃ (a : UInt64) (MC : tM), v = some (.double a) ∧ (lC cy ad' ct1 MC ∧ kFr ad ad' ct ct1) ∧ okM MC ∧ ad' 1 = ad 1 ∧ S a MC) (hX : ∀ E, PX E → (E = eIdx ∧ F1) ∨ (E = eArg ∧ F2) ∨ (E = eSta ∧ F3)) :
    KM l yL_cut [.codeWith yL_cut method_11_code 6 (some .int) [(0, 11, 14, 21), (0, 11, 18, 13), (0, 11, 22, 15)]] 9 179 5 30 [.ref (ad 1), .int x1, .int x2, .int x3, .ref (ad 91)] D s0 ad ct (oCd cy ad M (spG F1 F2 F3 S M)) := by
  obtain ⟨hlc, hlr, ho, hN, hX9, hem, ⟨fo, h90⟩, fd, h91⟩ := id h0
  have hR : ∀ v ad' ct', Post v ad' ct' → ∃ a : UInt64, v = some (.double a) := fun v ad' ct' h => by
    obtain ⟨a, MC, e, -⟩ := hP v ad' ct' h
    exact ⟨a, e⟩
  have hO : ∀ v ad' ct', Post v ad' ct' → ad' 91 = ad 91 ∧ ct' 91 = some (.inl (cy 0, 1, aD fd)) := fun v ad' ct' h => by
    obtain ⟨a, MC, e, hC, -⟩ := hP v ad' ct' h
    exact ⟨(hC.2 91 (by omega)).1, (hC.2 91 (by omega)).2.trans h91⟩
  refine KM.mono (w_cut G N3 hM (fun E h => (hX E h).imp (·.1) (·.imp (·.1) (·.1))) hR hO hlc.1.1) (oCd_of (Post := Post) (FX := fun v => (PX eIdx ∧ v = some (.int 1)) ∨ (PX eArg ∧ v = some (.int 2)) ∨ (PX eSta ∧ v = some (.int 3))) h0 ⟨h90, h91⟩ (fun a ad' ct1 h => ?_) (fun v h => ?_))
  · obtain ⟨a2, MC, e, hC, ho, h1, hs⟩ := hP _ ad' ct1 h
    cases e
    exact ⟨MC, hC, ho, h1, hs⟩
  · rcases h with ⟨h, hv⟩ | ⟨h, hv⟩ | ⟨h, hv⟩
    · exact Or.inl ⟨(hX _ h).elim (·.2) (fun z => z.elim (fun z => absurd z.1 (by decide)) (fun z => absurd z.1 (by decide))), hv⟩
    · exact Or.inr (Or.inl ⟨(hX _ h).elim (fun z => absurd z.1 (by decide)) (fun z => z.elim (·.2) (fun z => absurd z.1 (by decide))), hv⟩)
    · exact Or.inr (Or.inr ⟨(hX _ h).elim (fun z => absurd z.1 (by decide)) (fun z => z.elim (fun z => absurd z.1 (by decide)) (·.2)), hv⟩)
set_option maxHeartbeats 1000000 in
theorem V_sew {l : Launch} {D : va_G} {cy : Nat → ClassId} {sad : Nat → Nat} {em : Nat} {s0 : State} {a0 : Array Value} (G : kG kSTR l D cy sad em s0 a0) (N3 : kN3 s0) {nb : Nat} {M : tM} {ad : Nat → Nat} {ct : Nat → Option va_E} (h0 : lI cy em nb M ad ct) {Post : kPT} {PX : String → Prop} {x1 : Int32} {x2 : Int32} (hM : KX l yX7_sew [.code yX7_sew prog_1_method_11_code 5 (some .double)] 7 120 3 18 [.ref (ad 1), .int x1, .int x2] D s0 ad ct Post PX) {F1 F2 : Prop} {S : UInt64 → tM → Prop}
    (hP : ∀ v ad' ct1, Post v ad' ct1 → ∃ (a : UInt64) (MC : tM), v = some (.double a) ∧ (lC cy ad' ct1 MC ∧ kFr ad ad' ct ct1) ∧ okM MC ∧ ad' 1 = ad 1 ∧ S a MC) (hX : ∀ E, PX E → (E = eIdx ∧ F1) ∨ (E = eSta ∧ F2)) :
    KM l yL_sew [.codeWith yL_sew method_12_code 5 (some .int) [(0, 9, 12, 21), (0, 9, 16, 15)]] 8 144 3 18 [.ref (ad 1), .int x1, .int x2, .ref (ad 91)] D s0 ad ct (oCd cy ad M (spG F1 F2 False S M)) := by
  obtain ⟨hlc, hlr, ho, hN, hX9, hem, ⟨fo, h90⟩, fd, h91⟩ := id h0
  have hR : ∀ v ad' ct', Post v ad' ct' → ∃ a : UInt64, v = some (.double a) := fun v ad' ct' h => by
    obtain ⟨a, MC, e, -⟩ := hP v ad' ct' h
    exact ⟨a, e⟩
  have hO : ∀ v ad' ct', Post v ad' ct' → ad' 91 = ad 91 ∧ ct' 91 = some (.inl (cy 0, 1, aD fd)) := fun v ad' ct' h => by
    obtain ⟨a, MC, e, hC, -⟩ := hP v ad' ct' h
    exact ⟨(hC.2 91 (by omega)).1, (hC.2 91 (by omega)).2.trans h91⟩
  refine KM.mono (w_sew G N3 hM (fun E h => (hX E h).imp (·.1) (·.1)) hR hO hlc.1.1) (oCd_of (Post := Post) (FX := fun v => (PX eIdx ∧ v = some (.int 1)) ∨ (PX eSta ∧ v = some (.int 2))) h0 ⟨h90, h91⟩ (fun a ad' ct1 h => ?_) (fun v h => ?_))
  · obtain ⟨a2, MC, e, hC, ho, h1, hs⟩ := hP _ ad' ct1 h
    cases e
    exact ⟨MC, hC, ho, h1, hs⟩
  · rcases h with ⟨h, hv⟩ | ⟨h, hv⟩
    · exact Or.inl ⟨(hX _ h).elim (·.2) (fun z => absurd z.1 (by decide)), hv⟩
    · exact Or.inr (Or.inl ⟨(hX _ h).elim (fun z => absurd z.1 (by decide)) (·.2), hv⟩)
set_option maxHeartbeats 1000000 in
theorem V_fit {l : Launch} {D : va_G} {cy : Nat → ClassId} {sad : Nat → Nat} {em : Nat} {s0 : State} {a0 : Array Value} (G : kG kSTR l D cy sad em s0 a0) (N3 : kN3 s0) {nb : Nat} {M : tM} {ad : Nat → Nat} {ct : Nat → Option va_E} (h0 : lI cy em nb M ad ct) {Post : kPT} {PX : String → Prop} {x1 : Int32} (hM : KX l yX7_fit [.code yX7_fit prog_1_method_12_code 4 (some .int)] 7 120 2 12 [.ref (ad 1), .int x1] D s0 ad ct Post PX) {F1 F2 : Prop} {S : Int32 → tM → Prop}
    (hP : ∀ v ad' ct1, Post v ad' ct1 → ∃ (a : Int32) (MC : tM), v = some (.int a) ∧ (lC cy ad' ct1 MC ∧ kFr ad ad' ct ct1) ∧ okM MC ∧ ad' 1 = ad 1 ∧ S a MC) (hX : ∀ E, PX E → (E = eIdx ∧ F1) ∨ (E = eSta ∧ F2)) :
    KM l yL_fit [.codeWith yL_fit method_13_code 4 (some .int) [(0, 9, 12, 21), (0, 9, 15, 15)]] 8 143 2 12 [.ref (ad 1), .int x1, .ref (ad 90)] D s0 ad ct (oCi cy ad M (spG F1 F2 False S M)) := by
  obtain ⟨hlc, hlr, ho, hN, hX9, hem, ⟨fo, h90⟩, fd, h91⟩ := id h0
  have hR : ∀ v ad' ct', Post v ad' ct' → ∃ a : Int32, v = some (.int a) := fun v ad' ct' h => by
    obtain ⟨a, MC, e, -⟩ := hP v ad' ct' h
    exact ⟨a, e⟩
  have hO : ∀ v ad' ct', Post v ad' ct' → ad' 90 = ad 90 ∧ ct' 90 = some (.inl (cy 3, 1, aL fo)) := fun v ad' ct' h => by
    obtain ⟨a, MC, e, hC, -⟩ := hP v ad' ct' h
    exact ⟨(hC.2 90 (by omega)).1, (hC.2 90 (by omega)).2.trans h90⟩
  refine KM.mono (w_fit G N3 hM (fun E h => (hX E h).imp (·.1) (·.1)) hR hO hlc.1.1) (oCi_of (Post := Post) (FX := fun v => (PX eIdx ∧ v = some (.int 1)) ∨ (PX eSta ∧ v = some (.int 2))) h0 ⟨h90, h91⟩ (fun a ad' ct1 h => ?_) (fun v h => ?_))
  · obtain ⟨a2, MC, e, hC, ho, h1, hs⟩ := hP _ ad' ct1 h
    cases e
    exact ⟨MC, hC, ho, h1, hs⟩
  · rcases h with ⟨h, hv⟩ | ⟨h, hv⟩
    · exact Or.inl ⟨(hX _ h).elim (·.2) (fun z => absurd z.1 (by decide)), hv⟩
    · exact Or.inr (Or.inl ⟨(hX _ h).elim (fun z => absurd z.1 (by decide)) (·.2), hv⟩)
set_option maxHeartbeats 1000000 in
theorem V_give {l : Launch} {D : va_G} {cy : Nat → ClassId} {sad : Nat → Nat} {em : Nat} {s0 : State} {a0 : Array Value} (G : kG kSTR l D cy sad em s0 a0) (N3 : kN3 s0) {nb : Nat} {M : tM} {ad : Nat → Nat} {ct : Nat → Option va_E} (h0 : lI cy em nb M ad ct) {Post : kPT} {PX : String → Prop} {x1 : Int32} (hM : KX l yX7_give [.code yX7_give prog_1_method_13_code 5 (some .int)] 7 120 2 12 [.ref (ad 1), .int x1] D s0 ad ct Post PX) {F1 F2 : Prop} {S : Int32 → tM → Prop}
    (hP : ∀ v ad' ct1, Post v ad' ct1 → ∃ (a : Int32) (MC : tM), v = some (.int a) ∧ (lC cy ad' ct1 MC ∧ kFr ad ad' ct ct1) ∧ okM MC ∧ ad' 1 = ad 1 ∧ S a MC) (hX : ∀ E, PX E → (E = eIdx ∧ F1) ∨ (E = eSta ∧ F2)) :
    KM l yL_give [.codeWith yL_give method_14_code 4 (some .int) [(0, 9, 12, 21), (0, 9, 15, 15)]] 8 144 2 12 [.ref (ad 1), .int x1, .ref (ad 90)] D s0 ad ct (oCi cy ad M (spG F1 F2 False S M)) := by
  obtain ⟨hlc, hlr, ho, hN, hX9, hem, ⟨fo, h90⟩, fd, h91⟩ := id h0
  have hR : ∀ v ad' ct', Post v ad' ct' → ∃ a : Int32, v = some (.int a) := fun v ad' ct' h => by
    obtain ⟨a, MC, e, -⟩ := hP v ad' ct' h
    exact ⟨a, e⟩
  have hO : ∀ v ad' ct', Post v ad' ct' → ad' 90 = ad 90 ∧ ct' 90 = some (.inl (cy 3, 1, aL fo)) := fun v ad' ct' h => by
    obtain ⟨a, MC, e, hC, -⟩ := hP v ad' ct' h
    exact ⟨(hC.2 90 (by omega)).1, (hC.2 90 (by omega)).2.trans h90⟩
  refine KM.mono (w_give G N3 hM (fun E h => (hX E h).imp (·.1) (·.1)) hR hO hlc.1.1) (oCi_of (Post := Post) (FX := fun v => (PX eIdx ∧ v = some (.int 1)) ∨ (PX eSta ∧ v = some (.int 2))) h0 ⟨h90, h91⟩ (fun a ad' ct1 h => ?_) (fun v h => ?_))
  · obtain ⟨a2, MC, e, hC, ho, h1, hs⟩ := hP _ ad' ct1 h
    cases e
    exact ⟨MC, hC, ho, h1, hs⟩
  · rcases h with ⟨h, hv⟩ | ⟨h, hv⟩
    · exact Or.inl ⟨(hX _ h).elim (·.2) (fun z => absurd z.1 (by decide)), hv⟩
    · exact Or.inr (Or.inl ⟨(hX _ h).elim (fun z => absurd z.1 (by decide)) (·.2), hv⟩)
set_option maxHeartbeats 1000000 in
theorem V_pass {l : Launch} {D : va_G} {cy : Nat → ClassId} {sad : Nat → Nat} {em : Nat} {s0 : State} {a0 : Array Value} (G : kG kSTR l D cy sad em s0 a0) (N3 : kN3 s0) {nb : Nat} {M : tM} {ad : Nat → Nat} {ct : Nat → Option va_E} (h0 : lI cy em nb M ad ct) {Post : kPT} {PX : String → Prop} {x1 : Int32} (hM : KX l yX7_pass [.code yX7_pass prog_1_method_14_code 2 (some .double)] 6 90 1 6 [.ref (ad 1), .int x1] D s0 ad ct Post PX) {F1 : Prop} {S : UInt64 → tM → Prop}
    (hP : ∀ v ad' ct1, Post v ad' ct1 → ∃ (a : UInt64) (MC : tM), v = some (.double a) ∧ (lC cy ad' ct1 MC ∧ kFr ad ad' ct ct1) ∧ okM MC ∧ ad' 1 = ad 1 ∧ S a MC) (hX : ∀ E, PX E → E = eArg ∧ F1) :
    KM l yL_pass [.codeWith yL_pass method_15_code 4 (some .int) [(0, 8, 11, 13)]] 7 111 1 6 [.ref (ad 1), .int x1, .ref (ad 91)] D s0 ad ct (oCd cy ad M (spG F1 False False S M)) := by
  obtain ⟨hlc, hlr, ho, hN, hX9, hem, ⟨fo, h90⟩, fd, h91⟩ := id h0
  have hR : ∀ v ad' ct', Post v ad' ct' → ∃ a : UInt64, v = some (.double a) := fun v ad' ct' h => by
    obtain ⟨a, MC, e, -⟩ := hP v ad' ct' h
    exact ⟨a, e⟩
  have hO : ∀ v ad' ct', Post v ad' ct' → ad' 91 = ad 91 ∧ ct' 91 = some (.inl (cy 0, 1, aD fd)) := fun v ad' ct' h => by
    obtain ⟨a, MC, e, hC, -⟩ := hP v ad' ct' h
    exact ⟨(hC.2 91 (by omega)).1, (hC.2 91 (by omega)).2.trans h91⟩
  refine KM.mono (w_pass G N3 hM (fun E h => (hX E h).1) hR hO hlc.1.1) (oCd_of (Post := Post) (FX := fun v => (PX eArg ∧ v = some (.int 1))) h0 ⟨h90, h91⟩ (fun a ad' ct1 h => ?_) (fun v h => ?_))
  · obtain ⟨a2, MC, e, hC, ho, h1, hs⟩ := hP _ ad' ct1 h
    cases e
    exact ⟨MC, hC, ho, h1, hs⟩
  · exact Or.inl ⟨(hX _ h.1).2, h.2⟩
set_option maxHeartbeats 1000000 in
theorem V_ofCloth {l : Launch} {D : va_G} {cy : Nat → ClassId} {sad : Nat → Nat} {em : Nat} {s0 : State} {a0 : Array Value} (G : kG kSTR l D cy sad em s0 a0) (N3 : kN3 s0) {nb : Nat} {M : tM} {ad : Nat → Nat} {ct : Nat → Option va_E} (h0 : lI cy em nb M ad ct) {Post : kPT} {PX : String → Prop} {x1 : Int32} {x2 : Int32} (hM : KX l yX7_ofCloth [.code yX7_ofCloth prog_1_method_17_code 4 (some .double)] 7 120 2 12 [.ref (ad 1), .int x1, .int x2] D s0 ad ct Post PX) {F1 F2 : Prop} {S : UInt64 → tM → Prop}
    (hP : ∀ v ad' ct1, Post v ad' ct1 → ∃ (a : UInt64) (MC : tM), v = some (.double a) ∧ (lC cy ad' ct1 MC ∧ kFr ad ad' ct ct1) ∧ okM MC ∧ ad' 1 = ad 1 ∧ S a MC) (hX : ∀ E, PX E → (E = eIdx ∧ F1) ∨ (E = eArg ∧ F2)) :
    KM l yL_ofCloth [.codeWith yL_ofCloth method_16_code 5 (some .int) [(0, 9, 12, 21), (0, 9, 16, 13)]] 8 143 2 12 [.ref (ad 1), .int x1, .int x2, .ref (ad 91)] D s0 ad ct (oCd cy ad M (spG F1 F2 False S M)) := by
  obtain ⟨hlc, hlr, ho, hN, hX9, hem, ⟨fo, h90⟩, fd, h91⟩ := id h0
  have hR : ∀ v ad' ct', Post v ad' ct' → ∃ a : UInt64, v = some (.double a) := fun v ad' ct' h => by
    obtain ⟨a, MC, e, -⟩ := hP v ad' ct' h
    exact ⟨a, e⟩
  have hO : ∀ v ad' ct', Post v ad' ct' → ad' 91 = ad 91 ∧ ct' 91 = some (.inl (cy 0, 1, aD fd)) := fun v ad' ct' h => by
    obtain ⟨a, MC, e, hC, -⟩ := hP v ad' ct' h
    exact ⟨(hC.2 91 (by omega)).1, (hC.2 91 (by omega)).2.trans h91⟩
  refine KM.mono (w_ofCloth G N3 hM (fun E h => (hX E h).imp (·.1) (·.1)) hR hO hlc.1.1) (oCd_of (Post := Post) (FX := fun v => (PX eIdx ∧ v = some (.int 1)) ∨ (PX eArg ∧ v = some (.int 2))) h0 ⟨h90, h91⟩ (fun a ad' ct1 h => ?_) (fun v h => ?_))
  · obtain ⟨a2, MC, e, hC, ho, h1, hs⟩ := hP _ ad' ct1 h
    cases e
    exact ⟨MC, hC, ho, h1, hs⟩
  · rcases h with ⟨h, hv⟩ | ⟨h, hv⟩
    · exact Or.inl ⟨(hX _ h).elim (·.2) (fun z => absurd z.1 (by decide)), hv⟩
    · exact Or.inr (Or.inl ⟨(hX _ h).elim (fun z => absurd z.1 (by decide)) (·.2), hv⟩)
set_option maxHeartbeats 1000000 in
theorem V_size {l : Launch} {D : va_G} {cy : Nat → ClassId} {sad : Nat → Nat} {em : Nat} {s0 : State} {a0 : Array Value} (G : kG kSTR l D cy sad em s0 a0) (N3 : kN3 s0) {nb : Nat} {M : tM} {ad : Nat → Nat} {ct : Nat → Option va_E} (h0 : lI cy em nb M ad ct) {Post : kPT} {PX : String → Prop} {x1 : Int32} {x2 : Int32} {x3 : Int32} {x4 : Int32} (hM : KX l yX7_size [.code yX7_size prog_1_method_18_code 8 (some .double)] 7 120 2 12 [.ref (ad 1), .int x1, .int x2, .int x3, .int x4] D s0 ad ct Post PX) {F1 : Prop} {S : UInt64 → tM → Prop}
    (hP : ∀ v ad' ct1, Post v ad' ct1 → ∃ (a : UInt64) (MC : tM), v = some (.double a) ∧ (lC cy ad' ct1 MC ∧ kFr ad ad' ct ct1) ∧ okM MC ∧ ad' 1 = ad 1 ∧ S a MC) (hX : ∀ E, PX E → E = eIdx ∧ F1) :
    KM l yL_size [.codeWith yL_size method_17_code 7 (some .int) [(0, 13, 16, 21)]] 8 147 2 12 [.ref (ad 1), .int x1, .int x2, .int x3, .int x4, .ref (ad 91)] D s0 ad ct (oCd cy ad M (spG F1 False False S M)) := by
  obtain ⟨hlc, hlr, ho, hN, hX9, hem, ⟨fo, h90⟩, fd, h91⟩ := id h0
  have hR : ∀ v ad' ct', Post v ad' ct' → ∃ a : UInt64, v = some (.double a) := fun v ad' ct' h => by
    obtain ⟨a, MC, e, -⟩ := hP v ad' ct' h
    exact ⟨a, e⟩
  have hO : ∀ v ad' ct', Post v ad' ct' → ad' 91 = ad 91 ∧ ct' 91 = some (.inl (cy 0, 1, aD fd)) := fun v ad' ct' h => by
    obtain ⟨a, MC, e, hC, -⟩ := hP v ad' ct' h
    exact ⟨(hC.2 91 (by omega)).1, (hC.2 91 (by omega)).2.trans h91⟩
  refine KM.mono (w_size G N3 hM (fun E h => (hX E h).1) hR hO hlc.1.1) (oCd_of (Post := Post) (FX := fun v => (PX eIdx ∧ v = some (.int 1))) h0 ⟨h90, h91⟩ (fun a ad' ct1 h => ?_) (fun v h => ?_))
  · obtain ⟨a2, MC, e, hC, ho, h1, hs⟩ := hP _ ad' ct1 h
    cases e
    exact ⟨MC, hC, ho, h1, hs⟩
  · exact Or.inl ⟨(hX _ h.1).2, h.2⟩
set_option maxHeartbeats 1000000 in
theorem V_ofOrder {l : Launch} {D : va_G} {cy : Nat → ClassId} {sad : Nat → Nat} {em : Nat} {s0 : State} {a0 : Array Value} (G : kG kSTR l D cy sad em s0 a0) (N3 : kN3 s0) {nb : Nat} {M : tM} {ad : Nat → Nat} {ct : Nat → Option va_E} (h0 : lI cy em nb M ad ct) {Post : kPT} {PX : String → Prop} {x1 : Int32} {x2 : Int32} (hM : KX l yX7_ofOrder [.code yX7_ofOrder prog_1_method_19_code 4 (some .int)] 7 120 2 12 [.ref (ad 1), .int x1, .int x2] D s0 ad ct Post PX) {F1 F2 : Prop} {S : Int32 → tM → Prop}
    (hP : ∀ v ad' ct1, Post v ad' ct1 → ∃ (a : Int32) (MC : tM), v = some (.int a) ∧ (lC cy ad' ct1 MC ∧ kFr ad ad' ct ct1) ∧ okM MC ∧ ad' 1 = ad 1 ∧ S a MC) (hX : ∀ E, PX E → (E = eIdx ∧ F1) ∨ (E = eArg ∧ F2)) :
    KM l yL_ofOrder [.codeWith yL_ofOrder method_18_code 5 (some .int) [(0, 10, 13, 21), (0, 10, 17, 13)]] 8 143 2 12 [.ref (ad 1), .int x1, .int x2, .ref (ad 90)] D s0 ad ct (oCi cy ad M (spG F1 F2 False S M)) := by
  obtain ⟨hlc, hlr, ho, hN, hX9, hem, ⟨fo, h90⟩, fd, h91⟩ := id h0
  have hR : ∀ v ad' ct', Post v ad' ct' → ∃ a : Int32, v = some (.int a) := fun v ad' ct' h => by
    obtain ⟨a, MC, e, -⟩ := hP v ad' ct' h
    exact ⟨a, e⟩
  have hO : ∀ v ad' ct', Post v ad' ct' → ad' 90 = ad 90 ∧ ct' 90 = some (.inl (cy 3, 1, aL fo)) := fun v ad' ct' h => by
    obtain ⟨a, MC, e, hC, -⟩ := hP v ad' ct' h
    exact ⟨(hC.2 90 (by omega)).1, (hC.2 90 (by omega)).2.trans h90⟩
  refine KM.mono (w_ofOrder G N3 hM (fun E h => (hX E h).imp (·.1) (·.1)) hR hO hlc.1.1) (oCi_of (Post := Post) (FX := fun v => (PX eIdx ∧ v = some (.int 1)) ∨ (PX eArg ∧ v = some (.int 2))) h0 ⟨h90, h91⟩ (fun a ad' ct1 h => ?_) (fun v h => ?_))
  · obtain ⟨a2, MC, e, hC, ho, h1, hs⟩ := hP _ ad' ct1 h
    cases e
    exact ⟨MC, hC, ho, h1, hs⟩
  · rcases h with ⟨h, hv⟩ | ⟨h, hv⟩
    · exact Or.inl ⟨(hX _ h).elim (·.2) (fun z => absurd z.1 (by decide)), hv⟩
    · exact Or.inr (Or.inl ⟨(hX _ h).elim (fun z => absurd z.1 (by decide)) (·.2), hv⟩)
set_option maxHeartbeats 1000000 in
theorem V_tight {l : Launch} {D : va_G} {cy : Nat → ClassId} {sad : Nat → Nat} {em : Nat} {s0 : State} {a0 : Array Value} (G : kG kSTR l D cy sad em s0 a0) (N3 : kN3 s0) {nb : Nat} {M : tM} {ad : Nat → Nat} {ct : Nat → Option va_E} (h0 : lI cy em nb M ad ct) {Post : kPT} {PX : String → Prop} {x1 : Int32} {x2 : Int32} (hM : KX l yX7_tight [.code yX7_tight prog_1_method_20_code 3 (some .double)] 7 120 2 12 [.ref (ad 1), .int x1, .int x2] D s0 ad ct Post PX) {F1 : Prop} {S : UInt64 → tM → Prop}
    (hP : ∀ v ad' ct1, Post v ad' ct1 → ∃ (a : UInt64) (MC : tM), v = some (.double a) ∧ (lC cy ad' ct1 MC ∧ kFr ad ad' ct ct1) ∧ okM MC ∧ ad' 1 = ad 1 ∧ S a MC) (hX : ∀ E, PX E → E = eIdx ∧ F1) :
    KM l yL_tight [.codeWith yL_tight method_19_code 5 (some .int) [(0, 9, 12, 21)]] 8 142 2 12 [.ref (ad 1), .int x1, .int x2, .ref (ad 91)] D s0 ad ct (oCd cy ad M (spG F1 False False S M)) := by
  obtain ⟨hlc, hlr, ho, hN, hX9, hem, ⟨fo, h90⟩, fd, h91⟩ := id h0
  have hR : ∀ v ad' ct', Post v ad' ct' → ∃ a : UInt64, v = some (.double a) := fun v ad' ct' h => by
    obtain ⟨a, MC, e, -⟩ := hP v ad' ct' h
    exact ⟨a, e⟩
  have hO : ∀ v ad' ct', Post v ad' ct' → ad' 91 = ad 91 ∧ ct' 91 = some (.inl (cy 0, 1, aD fd)) := fun v ad' ct' h => by
    obtain ⟨a, MC, e, hC, -⟩ := hP v ad' ct' h
    exact ⟨(hC.2 91 (by omega)).1, (hC.2 91 (by omega)).2.trans h91⟩
  refine KM.mono (w_tight G N3 hM (fun E h => (hX E h).1) hR hO hlc.1.1) (oCd_of (Post := Post) (FX := fun v => (PX eIdx ∧ v = some (.int 1))) h0 ⟨h90, h91⟩ (fun a ad' ct1 h => ?_) (fun v h => ?_))
  · obtain ⟨a2, MC, e, hC, ho, h1, hs⟩ := hP _ ad' ct1 h
    cases e
    exact ⟨MC, hC, ho, h1, hs⟩
  · exact Or.inl ⟨(hX _ h.1).2, h.2⟩
set_option maxHeartbeats 1000000 in
theorem V_ready {l : Launch} {D : va_G} {cy : Nat → ClassId} {sad : Nat → Nat} {em : Nat} {s0 : State} {a0 : Array Value} (G : kG kSTR l D cy sad em s0 a0) (N3 : kN3 s0) {nb : Nat} {M : tM} {ad : Nat → Nat} {ct : Nat → Option va_E} (h0 : lI cy em nb M ad ct) {Post : kPT} {PX : String → Prop} {x1 : Int32} (hM : KX l yX7_ready [.code yX7_ready prog_1_method_21_code 2 (some .double)] 7 120 2 12 [.ref (ad 1), .int x1] D s0 ad ct Post PX) {F1 : Prop} {S : UInt64 → tM → Prop}
    (hP : ∀ v ad' ct1, Post v ad' ct1 → ∃ (a : UInt64) (MC : tM), v = some (.double a) ∧ (lC cy ad' ct1 MC ∧ kFr ad ad' ct ct1) ∧ okM MC ∧ ad' 1 = ad 1 ∧ S a MC) (hX : ∀ E, PX E → E = eIdx ∧ F1) :
    KM l yL_ready [.codeWith yL_ready method_20_code 4 (some .int) [(0, 8, 11, 21)]] 8 141 2 12 [.ref (ad 1), .int x1, .ref (ad 91)] D s0 ad ct (oCd cy ad M (spG F1 False False S M)) := by
  obtain ⟨hlc, hlr, ho, hN, hX9, hem, ⟨fo, h90⟩, fd, h91⟩ := id h0
  have hR : ∀ v ad' ct', Post v ad' ct' → ∃ a : UInt64, v = some (.double a) := fun v ad' ct' h => by
    obtain ⟨a, MC, e, -⟩ := hP v ad' ct' h
    exact ⟨a, e⟩
  have hO : ∀ v ad' ct', Post v ad' ct' → ad' 91 = ad 91 ∧ ct' 91 = some (.inl (cy 0, 1, aD fd)) := fun v ad' ct' h => by
    obtain ⟨a, MC, e, hC, -⟩ := hP v ad' ct' h
    exact ⟨(hC.2 91 (by omega)).1, (hC.2 91 (by omega)).2.trans h91⟩
  refine KM.mono (w_ready G N3 hM (fun E h => (hX E h).1) hR hO hlc.1.1) (oCd_of (Post := Post) (FX := fun v => (PX eIdx ∧ v = some (.int 1))) h0 ⟨h90, h91⟩ (fun a ad' ct1 h => ?_) (fun v h => ?_))
  · obtain ⟨a2, MC, e, hC, ho, h1, hs⟩ := hP _ ad' ct1 h
    cases e
    exact ⟨MC, hC, ho, h1, hs⟩
  · exact Or.inl ⟨(hX _ h.1).2, h.2⟩
set_option maxHeartbeats 1000000 in
theorem V_free {l : Launch} {D : va_G} {cy : Nat → ClassId} {sad : Nat → Nat} {em : Nat} {s0 : State} {a0 : Array Value} (G : kG kSTR l D cy sad em s0 a0) (N3 : kN3 s0) {nb : Nat} {M : tM} {ad : Nat → Nat} {ct : Nat → Option va_E} (h0 : lI cy em nb M ad ct) {Post : kPT} {PX : String → Prop} {x1 : Int32} (hM : KX l yX7_free [.code yX7_free prog_1_method_22_code 2 (some .double)] 7 120 2 12 [.ref (ad 1), .int x1] D s0 ad ct Post PX) {F1 : Prop} {S : UInt64 → tM → Prop}
    (hP : ∀ v ad' ct1, Post v ad' ct1 → ∃ (a : UInt64) (MC : tM), v = some (.double a) ∧ (lC cy ad' ct1 MC ∧ kFr ad ad' ct ct1) ∧ okM MC ∧ ad' 1 = ad 1 ∧ S a MC) (hX : ∀ E, PX E → E = eIdx ∧ F1) :
    KM l yL_free [.codeWith yL_free method_21_code 4 (some .int) [(0, 8, 11, 21)]] 8 141 2 12 [.ref (ad 1), .int x1, .ref (ad 91)] D s0 ad ct (oCd cy ad M (spG F1 False False S M)) := by
  obtain ⟨hlc, hlr, ho, hN, hX9, hem, ⟨fo, h90⟩, fd, h91⟩ := id h0
  have hR : ∀ v ad' ct', Post v ad' ct' → ∃ a : UInt64, v = some (.double a) := fun v ad' ct' h => by
    obtain ⟨a, MC, e, -⟩ := hP v ad' ct' h
    exact ⟨a, e⟩
  have hO : ∀ v ad' ct', Post v ad' ct' → ad' 91 = ad 91 ∧ ct' 91 = some (.inl (cy 0, 1, aD fd)) := fun v ad' ct' h => by
    obtain ⟨a, MC, e, hC, -⟩ := hP v ad' ct' h
    exact ⟨(hC.2 91 (by omega)).1, (hC.2 91 (by omega)).2.trans h91⟩
  refine KM.mono (w_free G N3 hM (fun E h => (hX E h).1) hR hO hlc.1.1) (oCd_of (Post := Post) (FX := fun v => (PX eIdx ∧ v = some (.int 1))) h0 ⟨h90, h91⟩ (fun a ad' ct1 h => ?_) (fun v h => ?_))
  · obtain ⟨a2, MC, e, hC, ho, h1, hs⟩ := hP _ ad' ct1 h
    cases e
    exact ⟨MC, hC, ho, h1, hs⟩
  · exact Or.inl ⟨(hX _ h.1).2, h.2⟩
set_option maxHeartbeats 1000000 in
theorem V_many {l : Launch} {D : va_G} {cy : Nat → ClassId} {sad : Nat → Nat} {em : Nat} {s0 : State} {a0 : Array Value} (G : kG kSTR l D cy sad em s0 a0) (N3 : kN3 s0) {nb : Nat} {M : tM} {ad : Nat → Nat} {ct : Nat → Option va_E} (h0 : lI cy em nb M ad ct) {Post : kPT} {PX : String → Prop} {x1 : Int32} (hM : KX l yX7_many [.code yX7_many prog_1_method_24_code 2 (some .int)] 7 120 2 12 [.ref (ad 1), .int x1] D s0 ad ct Post PX) {F1 : Prop} {S : Int32 → tM → Prop}
    (hP : ∀ v ad' ct1, Post v ad' ct1 → ∃ (a : Int32) (MC : tM), v = some (.int a) ∧ (lC cy ad' ct1 MC ∧ kFr ad ad' ct ct1) ∧ okM MC ∧ ad' 1 = ad 1 ∧ S a MC) (hX : ∀ E, PX E → E = eArg ∧ F1) :
    KM l yL_many [.codeWith yL_many method_22_code 4 (some .int) [(0, 9, 12, 13)]] 8 141 2 12 [.ref (ad 1), .int x1, .ref (ad 90)] D s0 ad ct (oCi cy ad M (spG F1 False False S M)) := by
  obtain ⟨hlc, hlr, ho, hN, hX9, hem, ⟨fo, h90⟩, fd, h91⟩ := id h0
  have hR : ∀ v ad' ct', Post v ad' ct' → ∃ a : Int32, v = some (.int a) := fun v ad' ct' h => by
    obtain ⟨a, MC, e, -⟩ := hP v ad' ct' h
    exact ⟨a, e⟩
  have hO : ∀ v ad' ct', Post v ad' ct' → ad' 90 = ad 90 ∧ ct' 90 = some (.inl (cy 3, 1, aL fo)) := fun v ad' ct' h => by
    obtain ⟨a, MC, e, hC, -⟩ := hP v ad' ct' h
    exact ⟨(hC.2 90 (by omega)).1, (hC.2 90 (by omega)).2.trans h90⟩
  refine KM.mono (w_many G N3 hM (fun E h => (hX E h).1) hR hO hlc.1.1) (oCi_of (Post := Post) (FX := fun v => (PX eArg ∧ v = some (.int 1))) h0 ⟨h90, h91⟩ (fun a ad' ct1 h => ?_) (fun v h => ?_))
  · obtain ⟨a2, MC, e, hC, ho, h1, hs⟩ := hP _ ad' ct1 h
    cases e
    exact ⟨MC, hC, ho, h1, hs⟩
  · exact Or.inl ⟨(hX _ h.1).2, h.2⟩
set_option maxHeartbeats 1000000 in
theorem V_lay {l : Launch} {D : va_G} {cy : Nat → ClassId} {sad : Nat → Nat} {em : Nat} {s0 : State} {a0 : Array Value} (G : kG kSTR l D cy sad em s0 a0) (N3 : kN3 s0) {nb : Nat} {M : tM} {ad : Nat → Nat} {ct : Nat → Option va_E} (h0 : lI cy em nb M ad ct) {Post : kPT} {PX : String → Prop} {x1 : Int32} {x2 : Int32} {x3 : Int32} {x4 : Int32} (hM : KX l yX7_lay [.code yX7_lay prog_1_method_25_code 8 (some .double)] 8 150 5 30 [.ref (ad 1), .int x1, .int x2, .int x3, .int x4] D s0 ad ct Post PX) {F1 F2 : Prop} {S : UInt64 → tM → Prop}
    (hP : ∀ v ad' ct1, Post v ad' ct1 → ∃ (a : UInt64) (MC : tM), v = some (.double a) ∧ (lC cy ad' ct1 MC ∧ kFr ad ad' ct ct1) ∧ okM MC ∧ ad' 1 = ad 1 ∧ S a MC) (hX : ∀ E, PX E → (E = eIdx ∧ F1) ∨ (E = eArg ∧ F2)) :
    KM l yL_lay [.codeWith yL_lay method_23_code 7 (some .int) [(0, 13, 16, 21), (0, 13, 20, 13)]] 9 177 5 30 [.ref (ad 1), .int x1, .int x2, .int x3, .int x4, .ref (ad 91)] D s0 ad ct (oCd cy ad M (spG F1 F2 False S M)) := by
  obtain ⟨hlc, hlr, ho, hN, hX9, hem, ⟨fo, h90⟩, fd, h91⟩ := id h0
  have hR : ∀ v ad' ct', Post v ad' ct' → ∃ a : UInt64, v = some (.double a) := fun v ad' ct' h => by
    obtain ⟨a, MC, e, -⟩ := hP v ad' ct' h
    exact ⟨a, e⟩
  have hO : ∀ v ad' ct', Post v ad' ct' → ad' 91 = ad 91 ∧ ct' 91 = some (.inl (cy 0, 1, aD fd)) := fun v ad' ct' h => by
    obtain ⟨a, MC, e, hC, -⟩ := hP v ad' ct' h
    exact ⟨(hC.2 91 (by omega)).1, (hC.2 91 (by omega)).2.trans h91⟩
  refine KM.mono (w_lay G N3 hM (fun E h => (hX E h).imp (·.1) (·.1)) hR hO hlc.1.1) (oCd_of (Post := Post) (FX := fun v => (PX eIdx ∧ v = some (.int 1)) ∨ (PX eArg ∧ v = some (.int 2))) h0 ⟨h90, h91⟩ (fun a ad' ct1 h => ?_) (fun v h => ?_))
  · obtain ⟨a2, MC, e, hC, ho, h1, hs⟩ := hP _ ad' ct1 h
    cases e
    exact ⟨MC, hC, ho, h1, hs⟩
  · rcases h with ⟨h, hv⟩ | ⟨h, hv⟩
    · exact Or.inl ⟨(hX _ h).elim (·.2) (fun z => absurd z.1 (by decide)), hv⟩
    · exact Or.inr (Or.inl ⟨(hX _ h).elim (fun z => absurd z.1 (by decide)) (·.2), hv⟩)
set_option maxHeartbeats 1000000 in
theorem V_best {l : Launch} {D : va_G} {cy : Nat → ClassId} {sad : Nat → Nat} {em : Nat} {s0 : State} {a0 : Array Value} (G : kG kSTR l D cy sad em s0 a0) (N3 : kN3 s0) {nb : Nat} {M : tM} {ad : Nat → Nat} {ct : Nat → Option va_E} (h0 : lI cy em nb M ad ct) {Post : kPT} {PX : String → Prop} {x1 : Int32} (hM : KX l yX7_best [.code yX7_best prog_1_method_26_code 10 (some .int)] 7 120 2 12 [.ref (ad 1), .int x1] D s0 ad ct Post PX) {F1 : Prop} {S : Int32 → tM → Prop}
    (hP : ∀ v ad' ct1, Post v ad' ct1 → ∃ (a : Int32) (MC : tM), v = some (.int a) ∧ (lC cy ad' ct1 MC ∧ kFr ad ad' ct ct1) ∧ okM MC ∧ ad' 1 = ad 1 ∧ S a MC) (hX : ∀ E, PX E → E = eIdx ∧ F1) :
    KM l yL_best [.codeWith yL_best method_24_code 4 (some .int) [(0, 9, 12, 21)]] 8 149 2 12 [.ref (ad 1), .int x1, .ref (ad 90)] D s0 ad ct (oCi cy ad M (spG F1 False False S M)) := by
  obtain ⟨hlc, hlr, ho, hN, hX9, hem, ⟨fo, h90⟩, fd, h91⟩ := id h0
  have hR : ∀ v ad' ct', Post v ad' ct' → ∃ a : Int32, v = some (.int a) := fun v ad' ct' h => by
    obtain ⟨a, MC, e, -⟩ := hP v ad' ct' h
    exact ⟨a, e⟩
  have hO : ∀ v ad' ct', Post v ad' ct' → ad' 90 = ad 90 ∧ ct' 90 = some (.inl (cy 3, 1, aL fo)) := fun v ad' ct' h => by
    obtain ⟨a, MC, e, hC, -⟩ := hP v ad' ct' h
    exact ⟨(hC.2 90 (by omega)).1, (hC.2 90 (by omega)).2.trans h90⟩
  refine KM.mono (w_best G N3 hM (fun E h => (hX E h).1) hR hO hlc.1.1) (oCi_of (Post := Post) (FX := fun v => (PX eIdx ∧ v = some (.int 1))) h0 ⟨h90, h91⟩ (fun a ad' ct1 h => ?_) (fun v h => ?_))
  · obtain ⟨a2, MC, e, hC, ho, h1, hs⟩ := hP _ ad' ct1 h
    cases e
    exact ⟨MC, hC, ho, h1, hs⟩
  · exact Or.inl ⟨(hX _ h.1).2, h.2⟩
set_option maxHeartbeats 1000000 in
theorem V_mate {l : Launch} {D : va_G} {cy : Nat → ClassId} {sad : Nat → Nat} {em : Nat} {s0 : State} {a0 : Array Value} (G : kG kSTR l D cy sad em s0 a0) (N3 : kN3 s0) {nb : Nat} {M : tM} {ad : Nat → Nat} {ct : Nat → Option va_E} (h0 : lI cy em nb M ad ct) {Post : kPT} {PX : String → Prop} {x1 : Int32} {x2 : Int32} (hM : KX l yX7_mate [.code yX7_mate prog_1_method_27_code 11 (some .int)] 7 150 3 18 [.ref (ad 1), .int x1, .int x2] D s0 ad ct Post PX) {F1 : Prop} {S : Int32 → tM → Prop}
    (hP : ∀ v ad' ct1, Post v ad' ct1 → ∃ (a : Int32) (MC : tM), v = some (.int a) ∧ (lC cy ad' ct1 MC ∧ kFr ad ad' ct ct1) ∧ okM MC ∧ ad' 1 = ad 1 ∧ S a MC) (hX : ∀ E, PX E → E = eIdx ∧ F1) :
    KM l yL_mate [.codeWith yL_mate method_25_code 5 (some .int) [(0, 10, 13, 21)]] 8 180 3 18 [.ref (ad 1), .int x1, .int x2, .ref (ad 90)] D s0 ad ct (oCi cy ad M (spG F1 False False S M)) := by
  obtain ⟨hlc, hlr, ho, hN, hX9, hem, ⟨fo, h90⟩, fd, h91⟩ := id h0
  have hR : ∀ v ad' ct', Post v ad' ct' → ∃ a : Int32, v = some (.int a) := fun v ad' ct' h => by
    obtain ⟨a, MC, e, -⟩ := hP v ad' ct' h
    exact ⟨a, e⟩
  have hO : ∀ v ad' ct', Post v ad' ct' → ad' 90 = ad 90 ∧ ct' 90 = some (.inl (cy 3, 1, aL fo)) := fun v ad' ct' h => by
    obtain ⟨a, MC, e, hC, -⟩ := hP v ad' ct' h
    exact ⟨(hC.2 90 (by omega)).1, (hC.2 90 (by omega)).2.trans h90⟩
  refine KM.mono (w_mate G N3 hM (fun E h => (hX E h).1) hR hO hlc.1.1) (oCi_of (Post := Post) (FX := fun v => (PX eIdx ∧ v = some (.int 1))) h0 ⟨h90, h91⟩ (fun a ad' ct1 h => ?_) (fun v h => ?_))
  · obtain ⟨a2, MC, e, hC, ho, h1, hs⟩ := hP _ ad' ct1 h
    cases e
    exact ⟨MC, hC, ho, h1, hs⟩
  · exact Or.inl ⟨(hX _ h.1).2, h.2⟩
set_option maxHeartbeats 1000000 in
theorem V_soonest {l : Launch} {D : va_G} {cy : Nat → ClassId} {sad : Nat → Nat} {em : Nat} {s0 : State} {a0 : Array Value} (G : kG kSTR l D cy sad em s0 a0) (N3 : kN3 s0) {nb : Nat} {M : tM} {ad : Nat → Nat} {ct : Nat → Option va_E} (h0 : lI cy em nb M ad ct) {Post : kPT} {PX : String → Prop} {x1 : Int32} (hM : KX l yX7_soonest [.code yX7_soonest prog_1_method_28_code 9 (some .int)] 7 120 2 12 [.ref (ad 1), .int x1] D s0 ad ct Post PX) {F1 : Prop} {S : Int32 → tM → Prop}
    (hP : ∀ v ad' ct1, Post v ad' ct1 → ∃ (a : Int32) (MC : tM), v = some (.int a) ∧ (lC cy ad' ct1 MC ∧ kFr ad ad' ct ct1) ∧ okM MC ∧ ad' 1 = ad 1 ∧ S a MC) (hX : ∀ E, PX E → E = eIdx ∧ F1) :
    KM l yL_soonest [.codeWith yL_soonest method_26_code 4 (some .int) [(0, 9, 12, 21)]] 8 148 2 12 [.ref (ad 1), .int x1, .ref (ad 90)] D s0 ad ct (oCi cy ad M (spG F1 False False S M)) := by
  obtain ⟨hlc, hlr, ho, hN, hX9, hem, ⟨fo, h90⟩, fd, h91⟩ := id h0
  have hR : ∀ v ad' ct', Post v ad' ct' → ∃ a : Int32, v = some (.int a) := fun v ad' ct' h => by
    obtain ⟨a, MC, e, -⟩ := hP v ad' ct' h
    exact ⟨a, e⟩
  have hO : ∀ v ad' ct', Post v ad' ct' → ad' 90 = ad 90 ∧ ct' 90 = some (.inl (cy 3, 1, aL fo)) := fun v ad' ct' h => by
    obtain ⟨a, MC, e, hC, -⟩ := hP v ad' ct' h
    exact ⟨(hC.2 90 (by omega)).1, (hC.2 90 (by omega)).2.trans h90⟩
  refine KM.mono (w_soonest G N3 hM (fun E h => (hX E h).1) hR hO hlc.1.1) (oCi_of (Post := Post) (FX := fun v => (PX eIdx ∧ v = some (.int 1))) h0 ⟨h90, h91⟩ (fun a ad' ct1 h => ?_) (fun v h => ?_))
  · obtain ⟨a2, MC, e, hC, ho, h1, hs⟩ := hP _ ad' ct1 h
    cases e
    exact ⟨MC, hC, ho, h1, hs⟩
  · exact Or.inl ⟨(hX _ h.1).2, h.2⟩
