/-! ===== WHAT IS OWED ===== -/
theorem i_vc : Claimed_1_1 ∧ Claimed_1_2 := sorry
set_option maxRecDepth 100000 in
theorem pz_t9 : pz_go3 start1.p0.tables start1.e0 (start1.about.heap.size + 180) 600 start1.about start1.about.vm start1.about.heap.toList start1.about.slotsUsed start1.about.frames = false := by decide +kernel
