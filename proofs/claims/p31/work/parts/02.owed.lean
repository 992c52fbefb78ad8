/-! the owed statement: true, and of no run (01): it is no proof of the property -/
theorem i_vc : Claimed_1_1 ∧ Claimed_1_2 := ⟨fun l _ h _ => absurd h (ee_noLists l), fun l _ h _ => absurd h (ee_noLists l)⟩
