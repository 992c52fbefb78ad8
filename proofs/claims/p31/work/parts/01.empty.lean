/-! p31's statement is empty: its head word is false of the very class file that it prints. Nothing here says anything of TailorBench. -/
theorem ee_head : Jvm.ClassFile.Facts.File.hasCode classFile x code maxLocals ret = false := by decide +kernel

/-- the table alone is why: with the ten entries that the class file has, the other word holds -/
theorem ee_table : Jvm.ClassFile.Facts.File.hasCodeWith classFile x code maxLocals ret [(95, 199, 690, 118), (200, 247, 690, 118), (248, 323, 690, 118), (324, 393, 690, 118), (394, 447, 690, 118), (448, 497, 690, 118), (498, 568, 690, 118), (569, 604, 690, 118), (605, 618, 690, 118), (619, 686, 690, 118)] = true := by decide +kernel

theorem ee_notPinned : ¬ PinnedClaimed := by
  intro h
  exact absurd (ee_head.symm.trans h) (by decide)

theorem ee_noLists (l : Launch) : ¬ Jvm.D.Lists l classFile x code maxLocals ret tables_1 room_1 := by
  intro h
  have hf := h.2.1
  have hc := h.2.2.1.1 (x, code, maxLocals, ret) (List.mem_append_left _ (List.mem_append_left _ (List.mem_singleton.mpr rfl)))
  rw [hf, Option.any_some] at hc
  dsimp only at hc
  rw [ee_head] at hc
  exact absurd hc (by decide)

theorem ee_notListsClaimed : ¬ ListsClaimed_1 := ee_noLists launch0

theorem ee_notWitness : ¬ WitnessClaimed_1 := by
  intro h
  obtain ⟨p, e, s, m, args, below, h⟩ := h
  exact ee_noLists launch0 h.1

theorem ee_notRefuted : ¬ RefutedClaimed_1_1 ∧ ¬ RefutedClaimed_1_2 := by
  refine ⟨?_, ?_⟩
  · intro h
    obtain ⟨l, p, e, s, m, args, below, _, h, _⟩ := h
    exact ee_noLists l h.1
  · intro h
    obtain ⟨l, p, e, s, m, args, below, _, h, _⟩ := h
    exact ee_noLists l h.1
