/-! ===== the pure part: numbers and checks ===== -/
theorem nI_mul (a b : Nat) : nI a * nI b = nI (a * b) := (Int32.ofNat_mul a b).symm
theorem nI_sub {a b : Nat} (h : b ≤ a) : nI a - nI b = nI (a - b) := by
  have h1 : nI a = nI (a - b) + nI b := by rw [nI_add]; congr 1; omega
  rw [h1, Int32.add_sub_cancel]
theorem neg_i1 : -nI 1 = nM := rfl
theorem neg_i2 : -nI 2 = (-2 : Int32) := rfl
abbrev nN : Int32 := -2
theorem nN_ne {n : Nat} (h : n < 2 ^ 31) : ¬ nI n = nN := fun e => by
  have h1 := nI_pos h
  rw [e] at h1
  exact h1 (by decide)
theorem nM_nN : ¬ nM = nN := by decide
theorem nN_nM : ¬ nN = nM := by decide
theorem nM_lt {n : Nat} (h : n < 2 ^ 31) : nM < nI n := by
  rw [Int32.lt_iff_toInt_lt, nI_toInt h, nM_toInt]; omega
theorem ltI_f {a b : Nat} (h : b ≤ a) (ha : a < 2 ^ 31) : (nI a < nI b) = False := eq_false (nI_nlt h ha)
theorem ltI_t {a b : Nat} (h : a < b) (hb : b < 2 ^ 31) : (nI a < nI b) = True := eq_true (nI_lt h hb)
theorem leI_t {a b : Nat} (h : a ≤ b) (hb : b < 2 ^ 31) : (nI a ≤ nI b) = True := eq_true (nI_le h hb)
theorem leI_f {a b : Nat} (h : b < a) (ha : a < 2 ^ 31) : (nI a ≤ nI b) = False := eq_false (nI_ge h ha)
theorem eqI_t {a b : Nat} (h : a = b) : (nI a = nI b) = True := eq_true (by rw [h])
theorem eqI_f {a b : Nat} (h : a ≠ b) (ha : a < 2 ^ 31) (hb : b < 2 ^ 31) : (nI a = nI b) = False := eq_false (fun e => h ((nI_eq ha hb).mp e))
theorem eqM_f {a : Nat} (ha : a < 2 ^ 31) : (nI a = nM) = False := eq_false (nI_nM ha)
theorem Meq_f {a : Nat} (ha : a < 2 ^ 31) : (nM = nI a) = False := eq_false (nM_nI ha)
theorem eqN_f {a : Nat} (ha : a < 2 ^ 31) : (nI a = nN) = False := eq_false (nN_ne ha)
theorem lt0_f {a : Nat} (ha : a < 2 ^ 31) : (nI a < nI 0) = False := eq_false (nI_lt0 ha)
/-- one of 0 .. n-1 -/
def isIx (n : Nat) (p : Int32) : Prop := ∃ j, j < n ∧ p = nI j
theorem not_ix {n : Nat} {p : Int32} (hn : n < 2 ^ 31) (h : ¬ isIx n p) : p < nI 0 ∨ (¬ p < nI 0 ∧ nI n ≤ p) := by
  rcases arg3 p n hn with h1 | h1 | h1
  · exact Or.inl h1
  · refine Or.inr ⟨fun h2 => ?_, h1⟩
    exact nI_pos hn (Int32.lt_of_le_of_lt h1 (by exact h2 : p < 0))
  · exact absurd h1 h
theorem le_succ_lt {n : Nat} {p : Int32} (hn : n + 1 < 2 ^ 31) (h : nI (n + 1) ≤ p) : nI n < p := i_lt_le (nI_lt (by omega) hn) h
theorem M_in_t {σ : tyS} {n j : Nat} (hn : n < 2 ^ 31) (hj : j < n) : tyf_M_in σ (nI j) 0 (nI n - 1) = some 1 := by
  unfold tyf_M_in
  rw [if_neg (nI_pos (by omega)), il1, nI_sub (by omega), if_neg (nI_nlt (by omega) (by omega))]
theorem M_in_f {σ : tyS} {n : Nat} {p : Int32} (hn : n < 2 ^ 31) (h : ¬ isIx n p) : tyf_M_in σ p 0 (nI n - 1) = some 0 := by
  unfold tyf_M_in
  rcases not_ix hn h with h1 | ⟨h1, h2⟩
  · rw [if_pos (by exact h1)]
  · rw [if_neg (by exact h1)]
    rcases Nat.eq_zero_or_pos n with h0 | h0
    · subst h0
      have : nI 0 - 1 = nM := by decide
      rw [this, if_pos (i_lt_le nM_lt0 h2)]
    · obtain ⟨q, rfl⟩ : ∃ q, n = q + 1 := ⟨n - 1, by omega⟩
      rw [il1, nI_sub (by omega), Nat.add_sub_cancel, if_pos (le_succ_lt hn h2)]
theorem T_isYard_t {σ : tyS} {j : Nat} (hj : j < 3) : tyf_T_isYard σ (nI j) = some 1 := by
  unfold tyf_T_isYard
  rw [if_neg (nI_pos (by omega)), il3, if_neg (nI_ge hj (by decide))]
theorem T_isYard_f {σ : tyS} {p : Int32} (h : ¬ isIx 3 p) : tyf_T_isYard σ p = some 0 := by
  unfold tyf_T_isYard
  rcases not_ix (by decide) h with h1 | ⟨h1, h2⟩
  · rw [if_pos (by exact h1)]
  · rw [if_neg (by exact h1), if_pos (by exact h2)]
theorem T_isTrack_t {σ : tyS} {j : Nat} (hj : j < 5) : tyf_T_isTrack σ (nI j) = some 1 := by
  unfold tyf_T_isTrack
  rw [if_neg (nI_pos (by omega)), il5, if_neg (nI_ge hj (by decide))]
theorem T_isTrack_f {σ : tyS} {p : Int32} (h : ¬ isIx 5 p) : tyf_T_isTrack σ p = some 0 := by
  unfold tyf_T_isTrack
  rcases not_ix (by decide) h with h1 | ⟨h1, h2⟩
  · rw [if_pos (by exact h1)]
  · rw [if_neg (by exact h1), if_pos (by exact h2)]
theorem T_isGrain_t {σ : tyS} {j : Nat} (hj : j < 4) : tyf_T_isGrain σ (nI j) = some 1 := by
  unfold tyf_T_isGrain
  rw [if_neg (nI_pos (by omega)), il4, if_neg (nI_ge hj (by decide))]
theorem T_isGrain_f {σ : tyS} {p : Int32} (h : ¬ isIx 4 p) : tyf_T_isGrain σ p = some 0 := by
  unfold tyf_T_isGrain
  rcases not_ix (by decide) h with h1 | ⟨h1, h2⟩
  · rw [if_pos (by exact h1)]
  · rw [if_neg (by exact h1), if_pos (by exact h2)]
theorem T_isExchange_t {σ : tyS} {j : Nat} (hj : j < 3) : tyf_T_isExchange σ (nI j) = some 1 := T_isYard_t (σ := σ) hj
theorem T_isExchange_f {σ : tyS} {p : Int32} (h : ¬ isIx 3 p) : tyf_T_isExchange σ p = some 0 := T_isYard_f (σ := σ) h
theorem T_requireTrack_t {σ : tyS} {y t : Nat} (hy : y < 3) (ht : t < 5) : tyf_T_requireTrack σ (nI y) (nI t) = some (0, 0, σ) := by
  unfold tyf_T_requireTrack
  rw [T_isYard_t hy, bR_s, if_neg (by decide), T_isTrack_t ht, bR_s, if_neg (by decide)]
theorem T_requireTrack_f {σ : tyS} {p q : Int32} (h : ¬ (isIx 3 p ∧ isIx 5 q)) : tyf_T_requireTrack σ p q = some (1, 0, σ) := by
  unfold tyf_T_requireTrack
  by_cases h1 : isIx 3 p
  · obtain ⟨y, hy, rfl⟩ := h1
    rw [T_isYard_t hy, bR_s, if_neg (by decide), T_isTrack_f (fun h2 => h ⟨⟨y, hy, rfl⟩, h2⟩), bR_s, if_pos rfl]
  · rw [T_isYard_f h1, bR_s, if_pos rfl]
theorem T_requireYard_t {σ : tyS} {y : Nat} (hy : y < 3) : tyf_T_requireYard σ (nI y) = some (0, 0, σ) := by
  unfold tyf_T_requireYard
  rw [T_isYard_t hy, bR_s, if_neg (by decide)]
theorem T_requireYard_f {σ : tyS} {p : Int32} (h : ¬ isIx 3 p) : tyf_T_requireYard σ p = some (1, 0, σ) := by
  unfold tyf_T_requireYard
  rw [T_isYard_f h, bR_s, if_pos rfl]
theorem T_requireCustomer_t {σ : tyS} {y : Nat} (hy : y < 6) : tyf_T_requireCustomer σ (nI y) = some (0, 0, σ) := by
  unfold tyf_T_requireCustomer
  rw [if_neg (nI_pos (by omega)), il6, if_pos (nI_lt hy (by decide))]
theorem T_requireCustomer_f {σ : tyS} {p : Int32} (h : ¬ isIx 6 p) : tyf_T_requireCustomer σ p = some (1, 0, σ) := by
  unfold tyf_T_requireCustomer
  rcases not_ix (by decide) h with h1 | ⟨h1, h2⟩
  · rw [if_pos (by exact h1)]
  · rw [if_neg (by exact h1), il6, if_neg (fun h3 => absurd h3 (Int32.not_lt.mpr h2))]
/-- the checks against a count of the state -/
theorem lt_ix {σ : tyS} {p : Int32} {n : Nat} (hn : n < 2 ^ 31) (h1 : ¬ p < 0) (h : p < nI n) : isIx n p := by
  obtain ⟨j, hj, rfl⟩ := nI_of h1
  exact ⟨j, (nI_ltI hj hn).mp h, rfl⟩
theorem T_requireWagon_t {σ : tyS} {n w : Nat} (hs : σ.2 0 = nI n) (hn : n < 2 ^ 31) (hw : w < n) : tyf_T_requireWagon σ (nI w) = some (0, 0, σ) := by
  unfold tyf_T_requireWagon
  rw [if_neg (nI_pos (by omega)), hs, if_pos (nI_lt hw hn)]
theorem T_requireWagon_f {σ : tyS} {n : Nat} {p : Int32} (hs : σ.2 0 = nI n) (hn : n < 2 ^ 31) (h : ¬ isIx n p) : tyf_T_requireWagon σ p = some (3, 0, σ) := by
  unfold tyf_T_requireWagon
  rcases not_ix hn h with h1 | ⟨h1, h2⟩
  · rw [if_pos (by exact h1)]
  · rw [if_neg (by exact h1), hs, if_neg (fun h3 => absurd h3 (Int32.not_lt.mpr h2))]
theorem T_requireCall_t {σ : tyS} {n w : Nat} (hs : σ.2 6 = nI n) (hn : n < 2 ^ 31) (hw : w < n) : tyf_T_requireCall σ (nI w) = some (0, 0, σ) := by
  unfold tyf_T_requireCall tyf_B_hasBegun
  rw [if_neg (nI_pos (by omega)), hs, if_neg (nI_ge hw hn), bR_s, if_neg (by decide)]
theorem T_requireCall_f {σ : tyS} {n : Nat} {p : Int32} (hs : σ.2 6 = nI n) (hn : n < 2 ^ 31) (h : ¬ isIx n p) : tyf_T_requireCall σ p = some (3, 0, σ) := by
  unfold tyf_T_requireCall tyf_B_hasBegun
  rcases not_ix hn h with h1 | ⟨h1, h2⟩
  · rw [if_pos (by exact h1), bR_s, if_pos rfl]
  · rw [if_neg (by exact h1), hs, if_pos h2, bR_s, if_pos rfl]
theorem T_requireBooking_t {σ : tyS} {n w : Nat} (hs : σ.2 5 = nI n) (hn : n < 2 ^ 31) (hw : w < n) : tyf_T_requireBooking σ (nI w) = some (0, 0, σ) := by
  unfold tyf_T_requireBooking tyf_L_opened
  rw [if_neg (nI_pos (by omega)), bR_s, hs, if_pos (nI_lt hw hn)]
theorem T_requireBooking_f {σ : tyS} {n : Nat} {p : Int32} (hs : σ.2 5 = nI n) (hn : n < 2 ^ 31) (h : ¬ isIx n p) : tyf_T_requireBooking σ p = some (3, 0, σ) := by
  unfold tyf_T_requireBooking tyf_L_opened
  rcases not_ix hn h with h1 | ⟨h1, h2⟩
  · rw [if_pos (by exact h1)]
  · rw [if_neg (by exact h1), bR_s, hs, if_neg (fun h3 => absurd h3 (Int32.not_lt.mpr h2))]
theorem T_requireTrunk_t {σ : tyS} {a b x : Nat} (ha : a < 3) (hb : b < 3) (hx : x < 2) (hab : a ≠ b) : tyf_T_requireTrunk σ (nI a) (nI b) (nI x) = some (0, 0, σ) := by
  unfold tyf_T_requireTrunk
  rw [T_isExchange_t ha, bR_s, if_neg (by decide), T_isExchange_t hb, bR_s, if_neg (by decide), if_neg (fun e => hab ((nI_eq (by omega) (by omega)).mp e)), if_neg (nI_pos (by omega)), il2, if_pos (nI_lt hx (by decide))]
theorem T_requireTrunk_f {σ : tyS} {p q r : Int32} (h : ¬ (isIx 3 p ∧ isIx 3 q ∧ p ≠ q ∧ isIx 2 r)) : tyf_T_requireTrunk σ p q r = some (1, 0, σ) := by
  unfold tyf_T_requireTrunk
  by_cases h1 : isIx 3 p
  · obtain ⟨y, hy, rfl⟩ := h1
    rw [T_isExchange_t hy, bR_s, if_neg (by decide)]
    by_cases h2 : isIx 3 q
    · obtain ⟨z, hz, rfl⟩ := h2
      rw [T_isExchange_t hz, bR_s, if_neg (by decide)]
      by_cases h3 : nI y = nI z
      · rw [if_pos h3]
      · rw [if_neg h3]
        have h4 : ¬ isIx 2 r := fun h4 => h ⟨⟨y, hy, rfl⟩, ⟨z, hz, rfl⟩, h3, h4⟩
        rcases not_ix (by decide) h4 with h1 | ⟨h1, h2⟩
        · rw [if_pos (by exact h1)]
        · rw [if_neg (by exact h1), il2, if_neg (fun h3 => absurd h3 (Int32.not_lt.mpr h2))]
    · rw [T_isExchange_f h2, bR_s, if_pos rfl]
  · rw [T_isExchange_f h1, bR_s, if_pos rfl]
/-! the reference's -/
theorem nar1 : vp_nar .boolean 1 = 1 := by decide
theorem nar0 : vp_nar .boolean 0 = 0 := by decide
theorem M_isYard_t {σ : tyS} {j : Nat} (hj : j < 3) : tyf_M_isYard σ (nI j) = some 1 := by
  unfold tyf_M_isYard
  rw [show (2 : Int32) = nI 3 - 1 from by decide, M_in_t (by decide) hj, bR_s]
  rfl
theorem M_isYard_f {σ : tyS} {p : Int32} (h : ¬ isIx 3 p) : tyf_M_isYard σ p = some 0 := by
  unfold tyf_M_isYard
  rw [show (2 : Int32) = nI 3 - 1 from by decide, M_in_f (by decide) h, bR_s]
  rfl
theorem M_isGrain_t {σ : tyS} {j : Nat} (hj : j < 4) : tyf_M_isGrain σ (nI j) = some 1 := by
  unfold tyf_M_isGrain
  rw [show (3 : Int32) = nI 4 - 1 from by decide, M_in_t (by decide) hj, bR_s]
  rfl
theorem M_isGrain_f {σ : tyS} {p : Int32} (h : ¬ isIx 4 p) : tyf_M_isGrain σ p = some 0 := by
  unfold tyf_M_isGrain
  rw [show (3 : Int32) = nI 4 - 1 from by decide, M_in_f (by decide) h, bR_s]
  rfl
theorem M_isTrack_t {σ : tyS} {y t : Nat} (hy : y < 3) (ht : t < 5) : tyf_M_isTrack σ (nI y) (nI t) = some 1 := by
  unfold tyf_M_isTrack
  rw [M_isYard_t hy, bR_s, if_neg (by decide), show (4 : Int32) = nI 5 - 1 from by decide, M_in_t (by decide) ht, bR_s, if_neg (by decide)]
theorem M_isTrack_f {σ : tyS} {p q : Int32} (h : ¬ (isIx 3 p ∧ isIx 5 q)) : tyf_M_isTrack σ p q = some 0 := by
  unfold tyf_M_isTrack
  by_cases h1 : isIx 3 p
  · obtain ⟨y, hy, rfl⟩ := h1
    rw [M_isYard_t hy, bR_s, if_neg (by decide), show (4 : Int32) = nI 5 - 1 from by decide, M_in_f (by decide) (fun h2 => h ⟨⟨y, hy, rfl⟩, h2⟩), bR_s, if_pos rfl]
  · rw [M_isYard_f h1, bR_s, if_pos rfl]
theorem M_isWagon_t {σ : tyS} {n w : Nat} (hs : σ.2 2 = nI n) (hn : n < 2 ^ 31) (hw : w < n) : tyf_M_isWagon σ (nI w) = some 1 := by
  unfold tyf_M_isWagon
  rw [hs, M_in_t hn hw, bR_s]
  rfl
theorem M_isWagon_f {σ : tyS} {n : Nat} {p : Int32} (hs : σ.2 2 = nI n) (hn : n < 2 ^ 31) (h : ¬ isIx n p) : tyf_M_isWagon σ p = some 0 := by
  unfold tyf_M_isWagon
  rw [hs, M_in_f hn h, bR_s]
  rfl
theorem M_isCall_t {σ : tyS} {n w : Nat} (hs : σ.2 3 = nI n) (hn : n < 2 ^ 31) (hw : w < n) : tyf_M_isCall σ (nI w) = some 1 := by
  unfold tyf_M_isCall
  rw [hs, M_in_t hn hw, bR_s]
  rfl
theorem M_isCall_f {σ : tyS} {n : Nat} {p : Int32} (hs : σ.2 3 = nI n) (hn : n < 2 ^ 31) (h : ¬ isIx n p) : tyf_M_isCall σ p = some 0 := by
  unfold tyf_M_isCall
  rw [hs, M_in_f hn h, bR_s]
  rfl
theorem M_isBooking_t {σ : tyS} {n w : Nat} (hs : σ.2 5 = nI n) (hn : n < 2 ^ 31) (hw : w < n) : tyf_M_isBooking σ (nI w) = some 1 := by
  unfold tyf_M_isBooking
  rw [hs, M_in_t hn hw, bR_s]
  rfl
theorem M_isBooking_f {σ : tyS} {n : Nat} {p : Int32} (hs : σ.2 5 = nI n) (hn : n < 2 ^ 31) (h : ¬ isIx n p) : tyf_M_isBooking σ p = some 0 := by
  unfold tyf_M_isBooking
  rw [hs, M_in_f hn h, bR_s]
  rfl
theorem M_asksWagon_t {σ : tyS} {n w : Nat} (hs : σ.2 2 = nI n) (hn : n < 2 ^ 31) (hw : w < n) : tyf_M_asksWagon σ (nI w) = some (1, sV σ 0 0) := by
  unfold tyf_M_asksWagon
  rw [M_isWagon_t hs hn hw, bR_s, if_neg (by decide), stp_e]
theorem M_asksWagon_f {σ : tyS} {n : Nat} {p : Int32} (hs : σ.2 2 = nI n) (hn : n < 2 ^ 31) (h : ¬ isIx n p) : tyf_M_asksWagon σ p = some (0, sV σ 0 1) := by
  unfold tyf_M_asksWagon
  rw [M_isWagon_f hs hn h, bR_s, if_pos rfl, stp_e]
theorem M_asksBooking_t {σ : tyS} {n w : Nat} (hs : σ.2 5 = nI n) (hn : n < 2 ^ 31) (hw : w < n) : tyf_M_asksBooking σ (nI w) = some (1, sV σ 0 0) := by
  unfold tyf_M_asksBooking
  rw [M_isBooking_t hs hn hw, bR_s, if_neg (by decide), stp_e]
theorem M_asksBooking_f {σ : tyS} {n : Nat} {p : Int32} (hs : σ.2 5 = nI n) (hn : n < 2 ^ 31) (h : ¬ isIx n p) : tyf_M_asksBooking σ p = some (0, sV σ 0 1) := by
  unfold tyf_M_asksBooking
  rw [M_isBooking_f hs hn h, bR_s, if_pos rfl, stp_e]
theorem M_isTrunk_t {σ : tyS} {a b x : Nat} (ha : a < 3) (hb : b < 3) (hx : x < 2) (hab : a ≠ b) : tyf_M_isTrunk σ (nI a) (nI b) (nI x) = some 1 := by
  unfold tyf_M_isTrunk
  rw [M_isYard_t ha, bR_s, if_neg (by decide), M_isYard_t hb, bR_s, if_neg (by decide), if_neg (fun e => hab ((nI_eq (by omega) (by omega)).mp e)), show (1 : Int32) = nI 2 - 1 from by decide, M_in_t (by decide) hx, bR_s, if_neg (by decide)]
theorem M_isTrunk_f {σ : tyS} {p q r : Int32} (h : ¬ (isIx 3 p ∧ isIx 3 q ∧ p ≠ q ∧ isIx 2 r)) : tyf_M_isTrunk σ p q r = some 0 := by
  unfold tyf_M_isTrunk
  by_cases h1 : isIx 3 p
  · obtain ⟨y, hy, rfl⟩ := h1
    rw [M_isYard_t hy, bR_s, if_neg (by decide)]
    by_cases h2 : isIx 3 q
    · obtain ⟨z, hz, rfl⟩ := h2
      rw [M_isYard_t hz, bR_s, if_neg (by decide)]
      by_cases h3 : nI y = nI z
      · rw [if_pos h3]
      · rw [if_neg h3, show (1 : Int32) = nI 2 - 1 from by decide, M_in_f (by decide) (fun h4 => h ⟨⟨y, hy, rfl⟩, ⟨z, hz, rfl⟩, h3, h4⟩), bR_s, if_pos rfl]
    · rw [M_isYard_f h2, bR_s, if_pos rfl]
  · rw [M_isYard_f h1, bR_s, if_pos rfl]
