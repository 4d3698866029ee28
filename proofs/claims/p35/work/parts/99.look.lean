/-! ===== WHAT IS OWED ===== -/
/-- owed, and false: see pz_refuted; it stands here with its sorry for the sake of the printed rows behind it alone -/
theorem i_vc : Claimed_1_1 ∧ Claimed_1_2 := sorry
/-! ===== THE CLAIM IS FALSE: its room of 180 new cells is passed while the law's own frame still stands ===== -/
set_option maxRecDepth 100000 in
theorem pz_passed : pz_go3 start1.p0.tables start1.e0 (start1.about.heap.size + 180) 30000 start1.about start1.about.vm start1.about.heap.toList start1.about.slotsUsed start1.about.frames = true := by decide +kernel
/-- from the witness's start the run makes more than 180 new cells before the law's invocation ends: so its end isn't framed by 180 -/
theorem pz_refuted : ¬ Claimed_1_1 := by
  intro hA
  obtain ⟨hL, hW, had, -, hcas, hclk, hfr, hfit, hheap, happ, hcalls, hrest, hpre⟩ := start1.atStart
  obtain ⟨q, o, -, -, hend, -, -, -, hsame⟩ := hA launch0 rfl hL hW start1.p0 start1.e0 had hcas hclk start1.about _ start1.args0 Lib.HandBits.below0 hfr hfit hheap happ ⟨hcalls, hrest, hpre⟩
  have h0 : pz_thr start1.about = true := by decide +kernel
  obtain ⟨t, gt, ht⟩ := pz_go3_ok rfl _ _ _ _ _ _ h0 (by decide +kernel) pz_passed
  rw [pz_C_self h0] at gt
  obtain ⟨k, hk, wk⟩ := gt
  have hq : (stepsAlone start1.p0.tables start1.e0 q start1.about).heap.size ≤ start1.about.heap.size + 180 := hsame.2.2.1
  rcases Nat.lt_or_ge q k with hlt | hge
  · have h2 := pz_ended hend
    rw [wk q hlt] at h2
    cases h2
  · obtain ⟨d, rfl⟩ := Nat.exists_eq_add_of_le hge
    have h2 : (stepsAlone start1.p0.tables start1.e0 k start1.about).heap.size ≤ (stepsAlone start1.p0.tables start1.e0 (k + d) start1.about).heap.size := by
      rw [stepsAlone_add]
      exact stepsAlone_heap_le _ _ _ _
    rw [hk] at h2
    omega
/-- nothing of the owed statement is left -/
theorem pz_no_vc : ¬ (Claimed_1_1 ∧ Claimed_1_2) := fun h => pz_refuted h.1
