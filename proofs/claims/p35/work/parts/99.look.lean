/-! ===== WHAT IS OWED ===== -/
theorem i_vc : Claimed_1_1 ∧ Claimed_1_2 := sorry
def pz_F (i : Nat) : JFrame := { method := ⟨6, 0⟩, pc := 5, locals := #[.val (.ref 0), .val (.int 0), .val (.int (Int32.ofNat i)), .val (.int 260)], stack := [], locked := none }
def pz_s0 : State := { start1.about with threads := #[{ frames := .java (pz_F 0) :: .java { pz_F 0 with pc := 7 } :: Lib.HandBits.below0 }] }
set_option maxRecDepth 100000 in
theorem pz_t1 : pz_run start1.p0.tables start1.e0 1000 150 pz_s0 = false := by decide +kernel
