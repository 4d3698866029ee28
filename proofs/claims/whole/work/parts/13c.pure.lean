/-! ===== the pure part: rows of wagons ===== -/
def Rows (c e : Nat → Int32) (N : Nat) (L : Nat → List Nat) : Prop := ∀ r, r < N → (L r).length ≤ 6 ∧ c r = nI (L r).length ∧ ∀ i x, (L r)[i]? = some x → e (6 * r + i) = nI x
theorem Rows.len {c e : Nat → Int32} {N r : Nat} {L : Nat → List Nat} (h : Rows c e N L) (hr : r < N) : (L r).length ≤ 6 := (h r hr).1
theorem Rows.c {c e : Nat → Int32} {N r : Nat} {L : Nat → List Nat} (h : Rows c e N L) (hr : r < N) : c r = nI (L r).length := (h r hr).2.1
theorem Rows.e {c e : Nat → Int32} {N r : Nat} {L : Nat → List Nat} (h : Rows c e N L) (hr : r < N) {i x : Nat} (hx : (L r)[i]? = some x) : e (6 * r + i) = nI x := (h r hr).2.2 i x hx
theorem get?_lt {l : List Nat} {i x : Nat} (h : l[i]? = some x) : i < l.length := by
  obtain ⟨h1, -⟩ := List.getElem?_eq_some_iff.mp h
  exact h1
theorem lt_get? {l : List Nat} {i : Nat} (h : i < l.length) : ∃ x, l[i]? = some x := ⟨l[i], List.getElem?_eq_getElem h⟩
theorem get?_mem {l : List Nat} {i x : Nat} (h : l[i]? = some x) : x ∈ l := List.mem_of_getElem? h
theorem Rows.put {c e : Nat → Int32} {N r w : Nat} {L : Nat → List Nat} (h : Rows c e N L) (hr : r < N) (hl : (L r).length < 6) : Rows (upd c r (nI ((L r).length + 1))) (upd e (6 * r + (L r).length) (nI w)) N (setL L r (L r ++ [w])) := by
  intro q hq
  by_cases hqr : q = r
  · subst hqr
    rw [setL_eq]
    refine ⟨by simp only [List.length_append, List.length_cons, List.length_nil]; omega, by rw [upd_eq, List.length_append]; rfl, fun i x hx => ?_⟩
    have hi := get?_lt hx
    simp only [List.length_append, List.length_cons, List.length_nil] at hi
    by_cases hi2 : i < (L q).length
    · rw [List.getElem?_append_left hi2] at hx
      rw [upd_ne (by omega)]
      exact h.e hq hx
    · have : i = (L q).length := by omega
      subst this
      rw [List.getElem?_append_right (Nat.le_refl _), Nat.sub_self] at hx
      simp only [List.getElem?_cons_zero, Option.some.injEq] at hx
      rw [upd_eq, hx]
  · rw [setL_ne hqr, upd_ne hqr]
    refine ⟨h.len hq, h.c hq, fun i x hx => ?_⟩
    have := get?_lt hx
    have := h.len hq
    rw [upd_ne (by omega)]
    exact h.e hq hx
theorem Rows.cut {c e : Nat → Int32} {N r y : Nat} {L : Nat → List Nat} (h : Rows c e N L) (hr : r < N) (hy : y ≤ (L r).length) : Rows (upd c r (nI y)) e N (setL L r ((L r).take y)) := by
  intro q hq
  by_cases hqr : q = r
  · subst hqr
    rw [setL_eq, upd_eq, List.length_take]
    have := h.len hq
    refine ⟨by omega, by rw [Nat.min_eq_left hy], fun i x hx => h.e hq ?_⟩
    have hi := get?_lt hx
    rw [List.length_take] at hi
    rw [List.getElem?_take_of_lt (by omega)] at hx
    exact hx
  · rw [setL_ne hqr, upd_ne hqr]
    exact h q hq
/-- j entries copied from s to d -/
def cpy (e : Nat → Int32) (s d j : Nat) : Nat → Int32 := fun q => if d ≤ q ∧ q < d + j then e (q - d + s) else e q
theorem cpy0 {e : Nat → Int32} {s d : Nat} : cpy e s d 0 = e := by
  funext q
  unfold cpy
  rw [if_neg (by omega)]
theorem cpy_out {e : Nat → Int32} {s d j q : Nat} (h : q < d ∨ d + j ≤ q) : cpy e s d j q = e q := by
  unfold cpy
  rw [if_neg (by omega)]
theorem cpy_in {e : Nat → Int32} {s d j i : Nat} (h : i < j) : cpy e s d j (d + i) = e (s + i) := by
  unfold cpy
  rw [if_pos (by omega)]
  congr 1; omega
theorem cpy_upd {e : Nat → Int32} {s d j : Nat} : upd (cpy e s d j) (d + j) (e (s + j)) = cpy e s d (j + 1) := by
  funext q
  by_cases hq : q = d + j
  · subst hq
    rw [upd_eq, cpy_in (by omega)]
  · rw [upd_ne hq]
    unfold cpy
    by_cases h1 : d ≤ q ∧ q < d + j
    · rw [if_pos h1, if_pos (by omega)]
    · rw [if_neg h1, if_neg (by omega)]
/-- the last x of row a at the end of row b -/
def mv (L : Nat → List Nat) (a b x : Nat) : Nat → List Nat := setL (setL L a ((L a).take ((L a).length - x))) b (L b ++ (L a).drop ((L a).length - x))
theorem mv_b {L : Nat → List Nat} {a b x : Nat} : mv L a b x b = L b ++ (L a).drop ((L a).length - x) := setL_eq
theorem mv_a {L : Nat → List Nat} {a b x : Nat} (h : a ≠ b) : mv L a b x a = (L a).take ((L a).length - x) := by
  unfold mv; rw [setL_ne h, setL_eq]
theorem mv_o {L : Nat → List Nat} {a b x q : Nat} (h : q ≠ a) (h2 : q ≠ b) : mv L a b x q = L q := by
  unfold mv; rw [setL_ne h2, setL_ne h]
theorem Rows.move {c e : Nat → Int32} {N a b x : Nat} {L : Nat → List Nat} (h : Rows c e N L) (ha : a < N) (hb : b < N) (hab : a ≠ b) (hx : x ≤ (L a).length) (hl : (L b).length + x ≤ 6) : Rows (upd (upd c a (nI ((L a).length - x))) b (nI ((L b).length + x))) (cpy e (6 * a + ((L a).length - x)) (6 * b + (L b).length) x) N (mv L a b x) := by
  intro q hq
  by_cases hqb : q = b
  · subst hqb
    rw [mv_b, upd_eq]
    have hl2 : (L q ++ (L a).drop ((L a).length - x)).length = (L q).length + x := by
      rw [List.length_append, List.length_drop]; omega
    refine ⟨by omega, by rw [hl2], fun i y hy => ?_⟩
    have hi := get?_lt hy
    by_cases hi2 : i < (L q).length
    · rw [List.getElem?_append_left hi2] at hy
      rw [cpy_out (by omega)]
      exact h.e hq hy
    · rw [List.getElem?_append_right (by omega), List.getElem?_drop] at hy
      have h3 : 6 * q + i = 6 * q + (L q).length + (i - (L q).length) := by omega
      rw [h3, cpy_in (by omega), Nat.add_assoc]
      exact h.e ha hy
  · rw [upd_ne hqb]
    by_cases hqa : q = a
    · subst hqa
      rw [mv_a hab, upd_eq, List.length_take]
      have := h.len hq
      refine ⟨by omega, by rw [Nat.min_eq_left (by omega)], fun i y hy => ?_⟩
      have hi := get?_lt hy
      rw [List.length_take] at hi
      rw [List.getElem?_take_of_lt (by omega)] at hy
      rw [cpy_out (by omega)]
      exact h.e hq hy
    · rw [mv_o hqa hqb, upd_ne hqa]
      refine ⟨h.len hq, h.c hq, fun i y hy => ?_⟩
      have := get?_lt hy
      have := h.len hq
      rw [cpy_out (by omega)]
      exact h.e hq hy
/-! the class's rows R1 -/
theorem R1_hasRoom_v {σ : tyS} {L : Nat → List Nat} {r x : Nat} (h : Rows (σ.1 6) (σ.1 7) 55 L) (hr : r < 55) (hx : x < 2 ^ 30) : tyf_R1_hasRoom σ (nI r) (nI x) = some (if (L r).length + x ≤ 6 then 1 else 0) := by
  unfold tyf_R1_hasRoom
  have := h.len hr
  rw [chk_in hr (by decide), nI_clamp (by omega), h.c hr, nI_add, il6]
  by_cases h1 : (L r).length + x ≤ 6
  · rw [if_neg (nI_nlt h1 (by decide)), if_pos h1]
  · rw [if_pos (nI_lt (by omega) (by omega)), if_neg h1]
theorem R1_count_v {σ : tyS} {L : Nat → List Nat} {r : Nat} (h : Rows (σ.1 6) (σ.1 7) 55 L) (hr : r < 55) : tyf_R1_count σ (nI r) = some (nI (L r).length) := by
  unfold tyf_R1_count
  rw [chk_in hr (by decide), nI_clamp (by omega), h.c hr]
theorem R1_get_v {σ : tyS} {L : Nat → List Nat} {r i x : Nat} (h : Rows (σ.1 6) (σ.1 7) 55 L) (hr : r < 55) (hx : (L r)[i]? = some x) : tyf_R1_get σ (nI r) (nI i) = some (nI x) := by
  unfold tyf_R1_get
  have := h.len hr
  have := get?_lt hx
  rw [il6, nI_mul, nI_add, Nat.mul_comm r 6, chk_in (by omega) (by decide), nI_clamp (by omega), h.e hr hx]
theorem R1_put_v {σ : tyS} {L : Nat → List Nat} {r w : Nat} (h : Rows (σ.1 6) (σ.1 7) 55 L) (hr : r < 55) (hl : (L r).length < 6) : ∃ τ, tyf_R1_put σ (nI r) (nI w) = some τ ∧ Fr [6, 7] [] σ τ ∧ Rows (τ.1 6) (τ.1 7) 55 (setL L r (L r ++ [w])) := by
  unfold tyf_R1_put
  rw [chk_in hr (by decide), nI_clamp (by omega), h.c hr, il6, nI_mul, nI_add, Nat.mul_comm r 6, chk_in (by omega) (by decide), stp_e, chk_in hr (by decide), chk_in hr (by decide), sW_ne (by decide), h.c hr, il1, nI_add, stp_e]
  refine ⟨_, rfl, (Fr.sW.tr Fr.sW).mono (by decide) (by decide), ?_⟩
  rw [sW_eq (by omega), sW_ne (by decide), sW_ne (by decide), sW_eq (by omega)]
  exact h.put hr hl
theorem R1_move_lp {e : Nat → Int32} {s d a b x : Nat} {K : tyS → Int32 → Int32 → Int32 → Int32 → Int32 → Int32 → Option tyS} {σ : tyS} (he : σ.1 7 = e) (hs : s + x ≤ 330) (hd : d + x ≤ 330) (hsd : s + x ≤ d ∨ d + x ≤ s) : ∀ (n j f : Nat) (τ : tyS), x - j = n → j ≤ x → n < f → Fr [7] [] σ τ → τ.1 7 = cpy e s d j → ∃ υ, tyl_R1_move_31 K f τ (nI a) (nI b) (nI x) (nI s) (nI d) (nI j) = K υ (nI a) (nI b) (nI x) (nI s) (nI d) (nI x) ∧ Fr [7] [] σ υ ∧ υ.1 7 = cpy e s d x := by
  intro n
  induction n with
  | zero =>
    intro j f τ hn hj hf fr hc
    obtain ⟨f, rfl⟩ : ∃ g, f = g + 1 := ⟨f - 1, by omega⟩
    have : j = x := by omega
    subst this
    refine ⟨τ, ?_, fr, hc⟩
    show tyb_R1_move_31 _ _ _ _ _ _ _ _ _ = _
    unfold tyb_R1_move_31
    rw [if_pos (nI_le (Nat.le_refl _) (by omega))]
  | succ n ih =>
    intro j f τ hn hj hf fr hc
    obtain ⟨f, rfl⟩ : ∃ g, f = g + 1 := ⟨f - 1, by omega⟩
    have h1 : tyl_R1_move_31 K (f + 1) τ (nI a) (nI b) (nI x) (nI s) (nI d) (nI j) = tyl_R1_move_31 K f (sW τ 7 (nI (d + j)) (e (s + j))) (nI a) (nI b) (nI x) (nI s) (nI d) (nI (j + 1)) := by
      show tyb_R1_move_31 _ _ _ _ _ _ _ _ _ = _
      unfold tyb_R1_move_31
      rw [if_neg (nI_ge (by omega) (by omega)), nI_add, nI_add, chk_in (by omega) (by decide), chk_in (by omega) (by decide), nI_clamp (by omega), stp_e, il1, nI_add, hc, cpy_out (by omega)]
    rw [h1]
    exact ih (j + 1) f _ (by omega) (by omega) (by omega) ((fr.tr Fr.sW).mono (by decide) (by decide)) (by rw [sW_eq (by omega), hc, cpy_upd])
theorem R1_move_v {σ : tyS} {L : Nat → List Nat} {a b x : Nat} (h : Rows (σ.1 6) (σ.1 7) 55 L) (ha : a < 55) (hb : b < 55) (hab : a ≠ b) (hx : x ≤ (L a).length) (hl : (L b).length + x ≤ 6) : ∃ τ, tyf_R1_move σ (nI a) (nI b) (nI x) = some τ ∧ Fr [6, 7] [] σ τ ∧ Rows (τ.1 6) (τ.1 7) 55 (mv L a b x) := by
  unfold tyf_R1_move
  have h6 := h.len ha
  have hd : 6 * a + (L a).length - x = 6 * a + ((L a).length - x) := by omega
  rw [chk_in ha (by decide), chk_in hb (by decide), nI_clamp (by omega), nI_clamp (by omega), h.c ha, h.c hb, il6, nI_mul, nI_mul, nI_add, nI_add, nI_sub (by omega), Nat.mul_comm a 6, Nat.mul_comm b 6, hd]
  obtain ⟨υ, h1, h2, h3⟩ := R1_move_lp (K := (fun σ0 x1 x2 x3 x4 x5 x6 =>
  chk (inb x1 55) (
  chk (inb x1 55) (stp (sW σ0 6 x1 ((σ0.1 6 (x1).toNatClampNeg) - x3)) fun σ9 =>
  chk (inb x2 55) (
  chk (inb x2 55) (stp (sW σ9 6 x2 ((σ9.1 6 (x2).toNatClampNeg) + x3)) fun σ12 =>
  some σ12))))) ) (σ := σ) (a := a) (b := b) (x := x) (s := 6 * a + ((L a).length - x)) (d := 6 * b + (L b).length) rfl (by omega) (by omega) (by omega) x 0 64 σ (by omega) (by omega) (by omega) Fr.rf cpy0.symm
  rw [il0, h1]
  rw [chk_in ha (by decide), chk_in ha (by decide), nI_clamp (by omega), h2.a 6, h.c ha, nI_sub hx, stp_e, chk_in hb (by decide), chk_in hb (by decide), nI_clamp (by omega), sW_eq (by omega), upd_ne (Ne.symm hab), h2.a 6, h.c hb, nI_add, stp_e]
  refine ⟨_, rfl, ((h2.tr Fr.sW).tr Fr.sW).mono (by decide) (by decide), ?_⟩
  rw [sW_eq (by omega), sW_eq (by omega), sW_ne (by decide), sW_ne (by decide), h3, h2.a 6]
  exact h.move ha hb hab hx hl
/-! the class's rows R2 -/
theorem R2_count_v {σ : tyS} {L : Nat → List Nat} {r : Nat} (h : Rows (σ.1 8) (σ.1 9) 55 L) (hr : r < 55) : tyf_R2_count σ (nI r) = some (nI (L r).length) := by
  unfold tyf_R2_count
  rw [chk_in hr (by decide), nI_clamp (by omega), h.c hr]
theorem R2_get_v {σ : tyS} {L : Nat → List Nat} {r i x : Nat} (h : Rows (σ.1 8) (σ.1 9) 55 L) (hr : r < 55) (hx : (L r)[i]? = some x) : tyf_R2_get σ (nI r) (nI i) = some (nI x) := by
  unfold tyf_R2_get
  have := h.len hr
  have := get?_lt hx
  rw [il6, nI_mul, nI_add, Nat.mul_comm r 6, chk_in (by omega) (by decide), nI_clamp (by omega), h.e hr hx]
theorem R2_put_v {σ : tyS} {L : Nat → List Nat} {r w : Nat} (h : Rows (σ.1 8) (σ.1 9) 55 L) (hr : r < 55) (hl : (L r).length < 6) : ∃ τ, tyf_R2_put σ (nI r) (nI w) = some τ ∧ Fr [8, 9] [] σ τ ∧ Rows (τ.1 8) (τ.1 9) 55 (setL L r (L r ++ [w])) := by
  unfold tyf_R2_put
  rw [chk_in hr (by decide), nI_clamp (by omega), h.c hr, il6, nI_mul, nI_add, Nat.mul_comm r 6, chk_in (by omega) (by decide), stp_e, chk_in hr (by decide), chk_in hr (by decide), sW_ne (by decide), h.c hr, il1, nI_add, stp_e]
  refine ⟨_, rfl, (Fr.sW.tr Fr.sW).mono (by decide) (by decide), ?_⟩
  rw [sW_eq (by omega), sW_ne (by decide), sW_ne (by decide), sW_eq (by omega)]
  exact h.put hr hl
theorem R2_move_lp {e : Nat → Int32} {s d a b x : Nat} {K : tyS → Int32 → Int32 → Int32 → Int32 → Int32 → Int32 → Option tyS} {σ : tyS} (he : σ.1 9 = e) (hs : s + x ≤ 330) (hd : d + x ≤ 330) (hsd : s + x ≤ d ∨ d + x ≤ s) : ∀ (n j f : Nat) (τ : tyS), x - j = n → j ≤ x → n < f → Fr [9] [] σ τ → τ.1 9 = cpy e s d j → ∃ υ, tyl_R2_move_31 K f τ (nI a) (nI b) (nI x) (nI s) (nI d) (nI j) = K υ (nI a) (nI b) (nI x) (nI s) (nI d) (nI x) ∧ Fr [9] [] σ υ ∧ υ.1 9 = cpy e s d x := by
  intro n
  induction n with
  | zero =>
    intro j f τ hn hj hf fr hc
    obtain ⟨f, rfl⟩ : ∃ g, f = g + 1 := ⟨f - 1, by omega⟩
    have : j = x := by omega
    subst this
    refine ⟨τ, ?_, fr, hc⟩
    show tyb_R2_move_31 _ _ _ _ _ _ _ _ _ = _
    unfold tyb_R2_move_31
    rw [if_pos (nI_le (Nat.le_refl _) (by omega))]
  | succ n ih =>
    intro j f τ hn hj hf fr hc
    obtain ⟨f, rfl⟩ : ∃ g, f = g + 1 := ⟨f - 1, by omega⟩
    have h1 : tyl_R2_move_31 K (f + 1) τ (nI a) (nI b) (nI x) (nI s) (nI d) (nI j) = tyl_R2_move_31 K f (sW τ 9 (nI (d + j)) (e (s + j))) (nI a) (nI b) (nI x) (nI s) (nI d) (nI (j + 1)) := by
      show tyb_R2_move_31 _ _ _ _ _ _ _ _ _ = _
      unfold tyb_R2_move_31
      rw [if_neg (nI_ge (by omega) (by omega)), nI_add, nI_add, chk_in (by omega) (by decide), chk_in (by omega) (by decide), nI_clamp (by omega), stp_e, il1, nI_add, hc, cpy_out (by omega)]
    rw [h1]
    exact ih (j + 1) f _ (by omega) (by omega) (by omega) ((fr.tr Fr.sW).mono (by decide) (by decide)) (by rw [sW_eq (by omega), hc, cpy_upd])
theorem R2_move_v {σ : tyS} {L : Nat → List Nat} {a b x : Nat} (h : Rows (σ.1 8) (σ.1 9) 55 L) (ha : a < 55) (hb : b < 55) (hab : a ≠ b) (hx : x ≤ (L a).length) (hl : (L b).length + x ≤ 6) : ∃ τ, tyf_R2_move σ (nI a) (nI b) (nI x) = some τ ∧ Fr [8, 9] [] σ τ ∧ Rows (τ.1 8) (τ.1 9) 55 (mv L a b x) := by
  unfold tyf_R2_move
  have h6 := h.len ha
  have hd : 6 * a + (L a).length - x = 6 * a + ((L a).length - x) := by omega
  rw [chk_in ha (by decide), chk_in hb (by decide), nI_clamp (by omega), nI_clamp (by omega), h.c ha, h.c hb, il6, nI_mul, nI_mul, nI_add, nI_add, nI_sub (by omega), Nat.mul_comm a 6, Nat.mul_comm b 6, hd]
  obtain ⟨υ, h1, h2, h3⟩ := R2_move_lp (K := (fun σ0 x1 x2 x3 x4 x5 x6 =>
  chk (inb x1 55) (
  chk (inb x1 55) (stp (sW σ0 8 x1 ((σ0.1 8 (x1).toNatClampNeg) - x3)) fun σ9 =>
  chk (inb x2 55) (
  chk (inb x2 55) (stp (sW σ9 8 x2 ((σ9.1 8 (x2).toNatClampNeg) + x3)) fun σ12 =>
  some σ12))))) ) (σ := σ) (a := a) (b := b) (x := x) (s := 6 * a + ((L a).length - x)) (d := 6 * b + (L b).length) rfl (by omega) (by omega) (by omega) x 0 64 σ (by omega) (by omega) (by omega) Fr.rf cpy0.symm
  rw [il0, h1]
  rw [chk_in ha (by decide), chk_in ha (by decide), nI_clamp (by omega), h2.a 8, h.c ha, nI_sub hx, stp_e, chk_in hb (by decide), chk_in hb (by decide), nI_clamp (by omega), sW_eq (by omega), upd_ne (Ne.symm hab), h2.a 8, h.c hb, nI_add, stp_e]
  refine ⟨_, rfl, ((h2.tr Fr.sW).tr Fr.sW).mono (by decide) (by decide), ?_⟩
  rw [sW_eq (by omega), sW_eq (by omega), sW_ne (by decide), sW_ne (by decide), h3, h2.a 8]
  exact h.move ha hb hab hx hl
