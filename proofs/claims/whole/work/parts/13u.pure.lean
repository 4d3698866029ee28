/-! ===== the pure part: depart ===== -/
def setF (f : Nat → Int32) (D : List Nat) (v : Nat → Int32) : Nat → Int32 := fun w => if w ∈ D then v w else f w
theorem setF_nil {f v : Nat → Int32} : setF f [] v = f := by funext w; unfold setF; rw [if_neg List.not_mem_nil]
theorem setF_snoc {f v : Nat → Int32} {D : List Nat} {w : Nat} {x : Int32} (hx : x = v w) : upd (setF f D v) w x = setF f (D ++ [w]) v := by
  funext u
  by_cases hu : u = w
  · subst hu
    rw [upd_eq, hx]; unfold setF
    rw [if_pos (List.mem_append_right _ (List.mem_singleton.mpr rfl))]
  · rw [upd_ne hu]; unfold setF
    by_cases hd : u ∈ D
    · rw [if_pos hd, if_pos (List.mem_append_left _ hd)]
    · rw [if_neg hd, if_neg (fun h => (List.mem_append.mp h).elim hd (fun h => hu (List.mem_singleton.mp h)))]
/-- the bookings of the wagons of D, by key -/
def setB (f : Nat → Int32) (key : Nat → Nat) (D : List Nat) (x : Int32) : Nat → Int32 := fun b => if D.any (fun w => decide (key w = b)) = true then x else f b
theorem setB_nil {f : Nat → Int32} {key : Nat → Nat} {x : Int32} : setB f key [] x = f := by funext b; unfold setB; rw [if_neg (by simp)]
theorem any_iff {key : Nat → Nat} {D : List Nat} {b : Nat} : D.any (fun w => decide (key w = b)) = true ↔ ∃ w, w ∈ D ∧ key w = b := by
  rw [List.any_eq_true]
  constructor
  · rintro ⟨w, h1, h2⟩; exact ⟨w, h1, of_decide_eq_true h2⟩
  · rintro ⟨w, h1, h2⟩; exact ⟨w, h1, decide_eq_true h2⟩
theorem setB_t {f : Nat → Int32} {key : Nat → Nat} {D : List Nat} {x : Int32} {w : Nat} (h : w ∈ D) : setB f key D x (key w) = x := if_pos (any_iff.mpr ⟨w, h, rfl⟩)
theorem setB_f {f : Nat → Int32} {key : Nat → Nat} {D : List Nat} {x : Int32} {b : Nat} (h : ∀ w ∈ D, key w ≠ b) : setB f key D x b = f b := if_neg (fun e => by
  obtain ⟨w, h1, h2⟩ := any_iff.mp e
  exact h w h1 h2)
theorem setB_or {f : Nat → Int32} {key : Nat → Nat} {D : List Nat} {x : Int32} (b : Nat) : (∃ w, w ∈ D ∧ key w = b ∧ setB f key D x b = x) ∨ ((∀ w ∈ D, key w ≠ b) ∧ setB f key D x b = f b) := by
  by_cases h : D.any (fun w => decide (key w = b)) = true
  · obtain ⟨w, h1, h2⟩ := any_iff.mp h
    exact Or.inl ⟨w, h1, h2, if_pos h⟩
  · exact Or.inr ⟨fun w h1 h2 => h (any_iff.mpr ⟨w, h1, h2⟩), if_neg h⟩
theorem setB_snoc {f : Nat → Int32} {key : Nat → Nat} {D : List Nat} {x : Int32} {w b : Nat} (hb : key w = b) : upd (setB f key D x) b x = setB f key (D ++ [w]) x := by
  funext u
  by_cases hu : u = b
  · subst hu
    rw [upd_eq, ← hb, setB_t (List.mem_append_right _ (List.mem_singleton.mpr rfl))]
  · rw [upd_ne hu]
    rcases setB_or (f := f) (key := key) (D := D) (x := x) u with ⟨v, h1, h2, e⟩ | ⟨h, e⟩
    · rw [e, ← h2, setB_t (List.mem_append_left _ h1)]
    · rw [e, setB_f (fun v hv => by
        rcases List.mem_append.mp hv with hv | hv
        · exact h v hv
        · rw [List.mem_singleton.mp hv, hb]; exact fun e => hu e.symm)]
def kM (μ : tyS) (w : Nat) : Nat := (μ.1 3 w).toNatClampNeg
def vM (μ : tyS) (w : Nat) : Int32 := μ.1 14 (kM μ w)
theorem T_load_v {σ μ : tyS} {L B : Nat → List Nat} {n m r : Nat} (g : Gb σ μ B n m) (hR : Rows (σ.1 6) (σ.1 7) 55 L) (hp : Pl L n) (n30 : n ≤ 30) (hr : r < 55) (hgo : ∀ w ∈ L r, ∃ b, b < m ∧ σ.1 20 w = nI b ∧ μ.1 3 w = nI b) : ∃ τ, tyf_T_load σ (nI r) = some τ ∧ Fr [16, 29] [] σ τ ∧ τ.1 16 = setB (σ.1 16) (kM μ) (L r) 3 ∧ τ.1 29 = setF (σ.1 29) (L r) (vM μ) := by
  have m40 := g.m40
  have hl6 := hR.len hr
  have lp : ∀ (d j f : Nat) (τ : tyS), (L r).length - j = d → j ≤ (L r).length → d < f → Fr [16, 29] [] σ τ → τ.1 16 = setB (σ.1 16) (kM μ) ((L r).take j) 3 → τ.1 29 = setF (σ.1 29) ((L r).take j) (vM μ) → ∃ υ, tyl_T_load_2 (fun σ0 x1 x2 => some σ0) f τ (nI r) (nI j) = some υ ∧ Fr [16, 29] [] σ υ ∧ υ.1 16 = setB (σ.1 16) (kM μ) (L r) 3 ∧ υ.1 29 = setF (σ.1 29) (L r) (vM μ) := by
    intro d
    induction d with
    | zero =>
      intro j f τ hd hj hf fr h16 h29
      obtain ⟨f, rfl⟩ : ∃ g, f = g + 1 := ⟨f - 1, by omega⟩
      have hjl : j = (L r).length := by omega
      rw [hjl, List.take_length] at h16 h29
      refine ⟨τ, ?_, fr, h16, h29⟩
      have hR2 : Rows (τ.1 6) (τ.1 7) 55 L := by rw [fr.a 6, fr.a 7]; exact hR
      show tyb_T_load_2 _ _ _ _ _ = _
      unfold tyb_T_load_2
      rw [R1_count_v hR2 hr, bR_s, if_pos (nI_le (by omega) (by omega))]
    | succ d ih =>
      intro j f τ hd hj hf fr h16 h29
      obtain ⟨f, rfl⟩ : ∃ g, f = g + 1 := ⟨f - 1, by omega⟩
      obtain ⟨w, hw⟩ := lt_get? (l := L r) (i := j) (by omega)
      have hwn := (hp.1 r hr).2 w (get?_mem hw)
      obtain ⟨b, hb, e1, e2⟩ := hgo w (get?_mem hw)
      have hk : kM μ w = b := by unfold kM; rw [e2, nI_clamp (by omega)]
      have hR2 : Rows (τ.1 6) (τ.1 7) 55 L := by rw [fr.a 6, fr.a 7]; exact hR
      have e : tyl_T_load_2 (fun σ0 x1 x2 => some σ0) (f + 1) τ (nI r) (nI j) = tyl_T_load_2 (fun σ0 x1 x2 => some σ0) f (sW (sW τ 29 (nI w) (vM μ w)) 16 (nI b) 3) (nI r) (nI (j + 1)) := by
        show tyb_T_load_2 _ _ _ _ _ = _
        unfold tyb_T_load_2 tyf_L_bookingFor tyf_L_grain tyf_L_keep
        rw [R1_count_v hR2 hr, bR_s, if_neg (nI_ge (by omega) (by omega)), R1_get_v hR2 hr hw, bR_s, chk_in (by omega) (by decide), bR_s, nI_clamp (n := w) (by omega), fr.a 20, e1, if_neg (show ¬ nI b = -1 from nI_nM (by omega)), chk_in (by omega) (by decide), bR_s, chk_in (by omega) (by decide), stp_e, chk_in (by omega) (by decide), stp_e, bR_s, nI_clamp (n := b) (by omega), fr.a 15, g.e15, ← nI_add j 1]
        unfold vM
        rw [hk]
        rfl
      rw [e]
      refine ih (j + 1) f _ (by omega) (by omega) (by omega) (((fr.tr Fr.sW).tr Fr.sW).mono (by decide) (by decide)) ?_ ?_
      · rw [sW_eq (by omega), sW_ne (by decide), h16, setB_snoc hk, take_snoc hw]
      · rw [sW_ne (by decide), sW_eq (by omega), h29, setF_snoc rfl, take_snoc hw]
  unfold tyf_T_load
  exact lp (L r).length 0 64 σ (by omega) (by omega) (by omega) Fr.rf (by rw [List.take_zero, setB_nil]) (by rw [List.take_zero, setF_nil])
def stR (f : Nat → Int32) (s : Nat) (l : List Nat) : Prop := ∀ i x, l[i]? = some x → f (s + i) = nI x
theorem M_depart_lp {σ μ0 : tyS} {L B : Nat → List Nat} {n m r T : Nat} {p1 p2 p3 : Int32} {K : tyS → Int32 → Int32 → Int32 → Int32 → Int32 → Option (Int32 × tyS)} (g : Gb σ μ0 B n m) (hR : Rows (μ0.1 4) (μ0.1 5) 15 L) (hp : Pl L n) (n30 : n ≤ 30) (hr : r < 15) (hT : T < 40) (mT : μ0.2 6 = nI T) (hgo : ∀ w ∈ L r, ∃ b, b < m ∧ μ0.1 3 w = nI b) : ∀ (d j f : Nat) (μ : tyS), (L r).length - j = d → j ≤ (L r).length → d < f → Fr [1, 2, 13, 23] [] μ0 μ → μ.1 1 = setW (μ0.1 1) ((L r).take j) nM → μ.1 2 = setF (μ0.1 2) ((L r).take j) (vM μ0) → μ.1 13 = setB (μ0.1 13) (kM μ0) ((L r).take j) 3 → stR (μ.1 23) (6 * T) ((L r).take j) → (∀ q, q < 6 * T → μ.1 23 q = μ0.1 23 q) → ∃ υ, tyl_M_depart_61 K f μ p1 p2 p3 (nI r) (nI j) = K υ p1 p2 p3 (nI r) (nI (L r).length) ∧ Fr [1, 2, 13, 23] [] μ0 υ ∧ υ.1 1 = setW (μ0.1 1) (L r) nM ∧ υ.1 2 = setF (μ0.1 2) (L r) (vM μ0) ∧ υ.1 13 = setB (μ0.1 13) (kM μ0) (L r) 3 ∧ stR (υ.1 23) (6 * T) (L r) ∧ (∀ q, q < 6 * T → υ.1 23 q = μ0.1 23 q) := by
  intro d
  have m40 := g.m40
  have hl6 := hR.len hr
  induction d with
  | zero =>
    intro j f μ hd hj hf fr h1 h2 h13 h23 h23b
    obtain ⟨f, rfl⟩ : ∃ g, f = g + 1 := ⟨f - 1, by omega⟩
    have hjl : j = (L r).length := by omega
    rw [hjl, List.take_length] at h1 h2 h13 h23
    refine ⟨μ, ?_, fr, h1, h2, h13, h23, h23b⟩
    rw [hjl]
    show tyb_M_depart_61 _ _ _ _ _ _ _ _ = _
    unfold tyb_M_depart_61
    rw [chk_in hr (by decide), nI_clamp (by omega), fr.a 4, hR.c hr, if_pos (nI_le (by omega) (by omega))]
  | succ d ih =>
    intro j f μ hd hj hf fr h1 h2 h13 h23 h23b
    obtain ⟨f, rfl⟩ : ∃ g, f = g + 1 := ⟨f - 1, by omega⟩
    obtain ⟨w, hw⟩ := lt_get? (l := L r) (i := j) (by omega)
    have hwn := (hp.1 r (by omega)).2 w (get?_mem hw)
    obtain ⟨b, hb, e2⟩ := hgo w (get?_mem hw)
    have hk : kM μ0 w = b := by unfold kM; rw [e2, nI_clamp (by omega)]
    have e : tyl_M_depart_61 K (f + 1) μ p1 p2 p3 (nI r) (nI j) = tyl_M_depart_61 K f (sW (sW (sW (sW μ 23 (nI (6 * T + j)) (nI w)) 1 (nI w) nM) 2 (nI w) (vM μ0 w)) 13 (nI b) 3) p1 p2 p3 (nI r) (nI (j + 1)) := by
      show tyb_M_depart_61 _ _ _ _ _ _ _ _ = _
      unfold tyb_M_depart_61
      rw [chk_in hr (by decide), nI_clamp (n := r) (by omega), fr.a 4, hR.c hr, if_neg (nI_ge (by omega) (by omega)), fr.v 6, mT, il6, nI_mul, nI_mul, nI_add, nI_add, chk_in (by omega) (by decide), chk_in (by omega) (by decide), stp_e, nI_clamp (n := 6 * r + j) (by omega), fr.a 5, hR.e hr hw, chk_in (by omega) (by decide), stp_e, nI_clamp (n := w) (by omega), sW_ne (by decide), sW_ne (by decide), sW_ne (by decide), sW_ne (by decide), fr.a 3, e2, nI_clamp (n := b) (by omega), fr.a 14]
      rw [chk_in (by omega) (by decide), chk_in (by omega) (by decide), chk_in (by omega) (by decide), stp_e, sW_ne (by decide), sW_ne (by decide), sW_ne (by decide), fr.a 3, e2, chk_in (by omega) (by decide), chk_in (by omega) (by decide), stp_e, ← nI_add j 1]
      unfold vM
      rw [hk]
      rfl
    rw [e]
    refine ih (j + 1) f _ (by omega) (by omega) (by omega) (((((fr.tr Fr.sW).tr Fr.sW).tr Fr.sW).tr Fr.sW).mono (by decide) (by decide)) ?_ ?_ ?_ ?_ ?_
    · rw [sW_ne (by decide), sW_ne (by decide), sW_eq (by omega), sW_ne (by decide), h1, setW_snoc, take_snoc hw]
    · rw [sW_ne (by decide), sW_eq (by omega), sW_ne (by decide), sW_ne (by decide), h2, setF_snoc rfl, take_snoc hw]
    · rw [sW_eq (by omega), sW_ne (by decide), sW_ne (by decide), sW_ne (by decide), h13, setB_snoc hk, take_snoc hw]
    · rw [sW_ne (by decide), sW_ne (by decide), sW_ne (by decide), sW_eq (by omega)]
      intro i x hx
      have hi := get?_lt hx
      rw [List.length_take] at hi
      rw [List.getElem?_take_of_lt (by omega)] at hx
      by_cases hij : i = j
      · subst hij
        rw [hw] at hx
        cases hx
        rw [upd_eq]
      · rw [upd_ne (by omega)]
        exact h23 i x (by rw [List.getElem?_take_of_lt (by omega)]; exact hx)
    · intro q hq
      rw [sW_ne (by decide), sW_ne (by decide), sW_ne (by decide), sW_eq (by omega), upd_ne (by omega)]
      exact h23b q hq
