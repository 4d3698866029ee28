/-! ===== WHAT IS OWED ===== -/
theorem i_vc : Claimed_1_1 ∧ Claimed_1_2 := sorry
set_option maxRecDepth 100000 in
theorem pz_t1 : pz_run start1.p0.tables start1.e0 (start1.about.heap.size + 0) 40 start1.about = false := by decide +kernel
