/-! ===== the pure part: where the wagons are ===== -/
def Pl (L : Nat → List Nat) (n : Nat) : Prop := (∀ r, r < 55 → (L r).Nodup ∧ ∀ w ∈ L r, w < n) ∧ (∀ r s w, r < 55 → s < 55 → w ∈ L r → w ∈ L s → r = s) ∧ ∀ w, w < n → ∃ r, r < 55 ∧ w ∈ L r
theorem setL_mem {L : Nat → List Nat} {r q w v : Nat} (h : w ∈ setL L r (L r ++ [v]) q) : w ∈ L q ∨ (w = v ∧ q = r) := by
  by_cases hq : q = r
  · subst hq
    rw [setL_eq] at h
    rcases List.mem_append.mp h with h | h
    · exact Or.inl h
    · exact Or.inr ⟨List.mem_singleton.mp h, rfl⟩
  · rw [setL_ne hq] at h
    exact Or.inl h
theorem mem_setL {L : Nat → List Nat} {r q w v : Nat} (h : w ∈ L q ∨ (w = v ∧ q = r)) : w ∈ setL L r (L r ++ [v]) q := by
  by_cases hq : q = r
  · subst hq
    rw [setL_eq]
    rcases h with h | ⟨h, -⟩
    · exact List.mem_append_left _ h
    · exact List.mem_append_right _ (List.mem_singleton.mpr h)
  · rw [setL_ne hq]
    rcases h with h | ⟨-, h⟩
    · exact h
    · exact absurd h hq
theorem Pl.put {L : Nat → List Nat} {n r : Nat} (h : Pl L n) (hr : r < 55) : Pl (setL L r (L r ++ [n])) (n + 1) := by
  refine ⟨fun q hq => ⟨?_, fun w hw => ?_⟩, fun q s w hq hs h1 h2 => ?_, fun w hw => ?_⟩
  · by_cases hqr : q = r
    · subst hqr
      rw [setL_eq]
      refine List.nodup_append.mpr ⟨(h.1 q hq).1, List.nodup_cons.mpr ⟨List.not_mem_nil, List.nodup_nil⟩, fun a ha b hb => ?_⟩
      have := (h.1 q hq).2 a ha
      have := List.mem_singleton.mp hb
      omega
    · rw [setL_ne hqr]
      exact (h.1 q hq).1
  · rcases setL_mem hw with h1 | ⟨h1, -⟩
    · have := (h.1 q hq).2 w h1
      omega
    · omega
  · rcases setL_mem h1 with h1 | ⟨h1, e1⟩ <;> rcases setL_mem h2 with h2 | ⟨h2, e2⟩
    · exact h.2.1 q s w hq hs h1 h2
    · have := (h.1 q hq).2 w h1
      omega
    · have := (h.1 s hs).2 w h2
      omega
    · omega
  · by_cases hwn : w < n
    · obtain ⟨q, hq, h1⟩ := h.2.2 w hwn
      exact ⟨q, hq, mem_setL (Or.inl h1)⟩
    · exact ⟨r, hr, mem_setL (Or.inr ⟨by omega, rfl⟩)⟩
/-- the last x of a row -/
def dr (L : Nat → List Nat) (a x : Nat) : List Nat := (L a).drop ((L a).length - x)
theorem dr_sub {L : Nat → List Nat} {a x w : Nat} (h : w ∈ dr L a x) : w ∈ L a := List.mem_of_mem_drop h
theorem mv_mem {L : Nat → List Nat} {a b x q w : Nat} (hab : a ≠ b) (hn : (L a).Nodup) : w ∈ mv L a b x q ↔ ((w ∈ dr L a x ∧ q = b) ∨ (w ∈ L q ∧ ¬ (q = a ∧ w ∈ dr L a x))) := by
  by_cases hb : q = b
  · subst hb
    rw [mv_b, List.mem_append]
    constructor
    · rintro (h | h)
      · exact Or.inr ⟨h, fun e => hab e.1.symm⟩
      · exact Or.inl ⟨h, rfl⟩
    · rintro (h | h)
      · exact Or.inr h.1
      · exact Or.inl h.1
  · by_cases ha : q = a
    · subst ha
      rw [mv_a hab]
      have hs : (L q).take ((L q).length - x) ++ dr L q x = L q := List.take_append_drop _ _
      have hn2 := hn
      rw [← hs] at hn2
      have hd := (List.nodup_append.mp hn2).2.2
      constructor
      · intro h
        exact Or.inr ⟨List.mem_of_mem_take h, fun e => hd w h w e.2 rfl⟩
      · rintro (h | h)
        · exact absurd h.2 hb
        · have h3 := h.1
          rw [← hs] at h3
          rcases List.mem_append.mp h3 with h4 | h4
          · exact h4
          · exact absurd ⟨rfl, h4⟩ h.2
    · rw [mv_o ha hb]
      constructor
      · intro h
        exact Or.inr ⟨h, fun e => ha e.1⟩
      · rintro (h | h)
        · exact absurd h.2 hb
        · exact h.1
theorem Pl.mv {L : Nat → List Nat} {n a b x : Nat} (h : Pl L n) (ha : a < 55) (hb : b < 55) (hab : a ≠ b) : Pl (mv L a b x) n := by
  have hna := (h.1 a ha).1
  refine ⟨fun q hq => ⟨?_, fun w hw => ?_⟩, fun q s w hq hs h1 h2 => ?_, fun w hw => ?_⟩
  · by_cases hqb : q = b
    · subst hqb
      rw [mv_b]
      refine List.nodup_append.mpr ⟨(h.1 q hq).1, hna.sublist (List.drop_sublist _ _), fun y hy z hz e => ?_⟩
      subst e
      exact hab (h.2.1 a q y ha hq (dr_sub hz) hy)
    · by_cases hqa : q = a
      · subst hqa
        rw [mv_a hab]
        exact hna.sublist (List.take_sublist _ _)
      · rw [mv_o hqa hqb]
        exact (h.1 q hq).1
  · rcases (mv_mem hab hna).mp hw with h1 | h1
    · exact (h.1 a ha).2 w (dr_sub h1.1)
    · exact (h.1 q hq).2 w h1.1
  · rcases (mv_mem hab hna).mp h1 with h1 | h1 <;> rcases (mv_mem hab hna).mp h2 with h2 | h2
    · omega
    · have := h.2.1 a s w ha hs (dr_sub h1.1) h2.1
      exact absurd ⟨this.symm, h1.1⟩ h2.2
    · have := h.2.1 a q w ha hq (dr_sub h2.1) h1.1
      exact absurd ⟨this.symm, h2.1⟩ h1.2
    · exact h.2.1 q s w hq hs h1.1 h2.1
  · obtain ⟨q, hq, h1⟩ := h.2.2 w hw
    by_cases hd : w ∈ dr L a x
    · exact ⟨b, hb, (mv_mem hab hna).mpr (Or.inl ⟨hd, rfl⟩)⟩
    · exact ⟨q, hq, (mv_mem hab hna).mpr (Or.inr ⟨h1, fun e => hd e.2⟩)⟩
/-- the reference's where -/
def pcode (r : Nat) : Nat := 10 * (r / 5) + r % 5
theorem pcode_inj {r s : Nat} (hr : r < 15) (hs : s < 15) (h : pcode r = pcode s) : r = s := by unfold pcode at h; omega
theorem pcode_lt {r : Nat} (hr : r < 15) : pcode r < 30 := by unfold pcode; omega
theorem pcode_of {y t : Nat} (ht : t < 5) : pcode (5 * y + t) = 10 * y + t := by unfold pcode; omega
def Wh (wh : Nat → Int32) (L : Nat → List Nat) : Prop := ∀ r, r < 55 → ∀ w ∈ L r, wh w = if r < 15 then nI (pcode r) else nM
theorem Wh.put {wh : Nat → Int32} {L : Nat → List Nat} {n r : Nat} (h : Wh wh L) (hp : Pl L n) (hr : r < 15) : Wh (upd wh n (nI (pcode r))) (setL L r (L r ++ [n])) := by
  intro q hq w hw
  rcases setL_mem hw with h1 | ⟨h1, h2⟩
  · have := (hp.1 q hq).2 w h1
    rw [upd_ne (by omega)]
    exact h q hq w h1
  · rw [h1, h2, upd_eq, if_pos hr]
theorem Wh.mv {wh wh2 : Nat → Int32} {L : Nat → List Nat} {n a b x : Nat} (h : Wh wh L) (hp : Pl L n) (ha : a < 55) (hb : b < 55) (hab : a ≠ b) (h1 : ∀ w ∈ dr L a x, wh2 w = if b < 15 then nI (pcode b) else nM) (h2 : ∀ w, w ∉ dr L a x → wh2 w = wh w) : Wh wh2 (mv L a b x) := by
  intro q hq w hw
  rcases (mv_mem hab (hp.1 a ha).1).mp hw with ⟨g1, g2⟩ | ⟨g1, g2⟩
  · rw [g2]; exact h1 w g1
  · by_cases hd : w ∈ dr L a x
    · exact absurd ⟨hp.2.1 q a w hq ha g1 (dr_sub hd), hd⟩ g2
    · rw [h2 w hd]; exact h q hq w g1
theorem Wh.iff {wh : Nat → Int32} {L : Nat → List Nat} {n w r : Nat} (h : Wh wh L) (hp : Pl L n) (hw : w < n) (hr : r < 15) : wh w = nI (pcode r) ↔ w ∈ L r := by
  constructor
  · intro e
    obtain ⟨q, hq, h1⟩ := hp.2.2 w hw
    rw [h q hq w h1] at e
    by_cases hq5 : q < 15
    · rw [if_pos hq5] at e
      have := (nI_eq (by have := pcode_lt hq5; omega) (by have := pcode_lt hr; omega)).mp e
      have := pcode_inj hq5 hr this
      subst this
      exact h1
    · rw [if_neg hq5] at e
      exact absurd e.symm (nI_nM (by have := pcode_lt hr; omega))
  · intro h1
    rw [h r (by omega) w h1, if_pos hr]
/-! the reference's puts -/
theorem puts_v {μ : tyS} {L : Nat → List Nat} {y t w : Nat} (h : Rows (μ.1 4) (μ.1 5) 15 L) (hy : y < 3) (ht : t < 5) (hw : w < 30) (hl : (L (5 * y + t)).length < 6) : ∃ τ, tyf_M_puts μ (nI y) (nI t) (nI w) = some τ ∧ Fr [1, 4, 5] [] μ τ ∧ Rows (τ.1 4) (τ.1 5) 15 (setL L (5 * y + t) (L (5 * y + t) ++ [w])) ∧ τ.1 1 = upd (μ.1 1) w (nI (pcode (5 * y + t))) ∧ τ.1 5 = upd (μ.1 5) (6 * (5 * y + t) + (L (5 * y + t)).length) (nI w) := by
  have hr : 5 * y + t < 15 := by omega
  unfold tyf_M_puts
  rw [il5, il6, il10, nI_mul, nI_add, chk_in hr (by decide), nI_clamp (by omega), h.c hr, nI_mul, nI_add, chk_in (by omega) (by decide), stp_e, chk_in hr (by decide), chk_in hr (by decide), sW_ne (by decide), h.c hr, il1, nI_add, stp_e, chk_in hw (by decide), nI_mul, nI_add, stp_e, pcode_of ht]
  refine ⟨_, rfl, ((Fr.sW.tr Fr.sW).tr Fr.sW).mono (by decide) (by decide), ?_, ?_, ?_⟩
  · rw [sW_ne (by decide), sW_eq (by omega), sW_ne (by decide), sW_ne (by decide), sW_ne (by decide), sW_eq (by omega)]
    exact h.put hr hl
  · rw [sW_eq (by omega), sW_ne (by decide), sW_ne (by decide)]
  · rw [sW_ne (by decide), sW_ne (by decide), sW_eq (by omega)]
/-- the wagons of D, the first j of them, set to x -/
def setW (wh : Nat → Int32) (D : List Nat) (x : Int32) : Nat → Int32 := fun w => if w ∈ D then x else wh w
theorem setW_nil {wh : Nat → Int32} {x : Int32} : setW wh [] x = wh := by funext w; unfold setW; rw [if_neg List.not_mem_nil]
theorem setW_snoc {wh : Nat → Int32} {D : List Nat} {x : Int32} {w : Nat} : upd (setW wh D x) w x = setW wh (D ++ [w]) x := by
  funext v
  by_cases hv : v = w
  · subst hv
    rw [upd_eq]; unfold setW
    rw [if_pos (List.mem_append_right _ (List.mem_singleton.mpr rfl))]
  · rw [upd_ne hv]; unfold setW
    by_cases hd : v ∈ D
    · rw [if_pos hd, if_pos (List.mem_append_left _ hd)]
    · rw [if_neg hd, if_neg (fun h => (List.mem_append.mp h).elim hd (fun h => hv (List.mem_singleton.mp h)))]
theorem setW_t {wh : Nat → Int32} {D : List Nat} {x : Int32} {w : Nat} (h : w ∈ D) : setW wh D x w = x := if_pos h
theorem setW_f {wh : Nat → Int32} {D : List Nat} {x : Int32} {w : Nat} (h : w ∉ D) : setW wh D x w = wh w := if_neg h
theorem take_snoc {D : List Nat} {j w : Nat} (h : D[j]? = some w) : D.take j ++ [w] = D.take (j + 1) := by
  rw [List.take_add_one, h]; rfl
theorem setL_setL {L : Nat → List Nat} {r : Nat} {x y : List Nat} : setL (setL L r x) r y = setL L r y := by
  funext q
  unfold setL
  by_cases h : q = r
  · rw [if_pos h, if_pos h]
  · rw [if_neg h, if_neg h, if_neg h]
/-- one more of D at the end of row b -/
theorem puts_app {μ : tyS} {L : Nat → List Nat} {D : List Nat} {y t w j : Nat} (h : Rows (μ.1 4) (μ.1 5) 15 (setL L (5 * y + t) (L (5 * y + t) ++ D.take j))) (hy : y < 3) (ht : t < 5) (hw : w < 30) (hD : D[j]? = some w) (hl : (L (5 * y + t)).length + D.length ≤ 6) : ∃ τ, tyf_M_puts μ (nI y) (nI t) (nI w) = some τ ∧ Fr [1, 4, 5] [] μ τ ∧ Rows (τ.1 4) (τ.1 5) 15 (setL L (5 * y + t) (L (5 * y + t) ++ D.take (j + 1))) ∧ τ.1 1 = upd (μ.1 1) w (nI (pcode (5 * y + t))) ∧ (∀ i, (6 * i < 6 * (5 * y + t) ∨ 6 * (5 * y + t) < 6 * i) → ∀ k, k < 6 → τ.1 5 (6 * i + k) = μ.1 5 (6 * i + k)) := by
  have hj := get?_lt hD
  have hlen : (setL L (5 * y + t) (L (5 * y + t) ++ D.take j) (5 * y + t)).length = (L (5 * y + t)).length + j := by
    rw [setL_eq, List.length_append, List.length_take]; omega
  obtain ⟨τ, h1, h2, h3, h4, h5⟩ := puts_v h hy ht hw (by omega)
  refine ⟨τ, h1, h2, ?_, h4, fun i hi k hk => ?_⟩
  · rw [setL_setL, setL_eq, List.append_assoc, take_snoc hD] at h3
    exact h3
  · rw [h5, hlen, upd_ne (by omega)]
