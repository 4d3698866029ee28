/-! ===== the pure part: ask ===== -/
theorem sub_len : ∀ (A X : List Nat), A.Nodup → (∀ x ∈ A, x ∈ X) → A.length ≤ X.length := by
  intro A
  induction A with
  | nil => intro X _ _; exact Nat.zero_le _
  | cons a A ih =>
    intro X hn hs
    have ha := hs a List.mem_cons_self
    obtain ⟨h1, h2⟩ := List.nodup_cons.mp hn
    have h3 := ih (X.erase a) h2 (fun x hx => (List.mem_erase_of_ne (fun e : x = a => h1 (by rw [← e]; exact hx))).mpr (hs x (List.mem_cons_of_mem _ hx)))
    rw [List.length_erase_of_mem ha] at h3
    have := List.length_pos_of_mem ha
    simp only [List.length_cons]
    omega
theorem nodup_len {l : List Nat} {n : Nat} (h : l.Nodup) (h2 : ∀ x ∈ l, x < n) : l.length ≤ n := by
  have := sub_len l (List.range n) h (fun x hx => List.mem_range.mpr (h2 x hx))
  rw [List.length_range] at this
  exact this
/-! what fits -/
def fitB (σ : tyS) (g w : Nat) : Bool := decide (tyf_T_fits σ (nI w) (nI g) = some 1)
theorem fits_v {σ μ : tyS} {n w g : Nat} (gc : Gc σ μ n) (hw : w < n) (n30 : n ≤ 30) (hg : g < 4) : tyf_T_fits σ (nI w) (nI g) = some (if fitB σ g w = true then 1 else 0) ∧ tyf_M_fits μ (nI w) (nI g) = some (if fitB σ g w = true then 1 else 0) := by
  have key : (tyf_T_fits σ (nI w) (nI g) = some 1 ∧ tyf_M_fits μ (nI w) (nI g) = some 1) ∨ (tyf_T_fits σ (nI w) (nI g) = some 0 ∧ tyf_M_fits μ (nI w) (nI g) = some 0) := by
    unfold tyf_T_fits tyf_M_fits
    obtain ⟨e1, e2⟩ := gc.car w hw
    rw [chk_in (by omega) (by decide), chk_in (by omega) (by decide), chk_in (by omega) (by decide), chk_in (by omega) (by decide), nI_clamp (n := w) (by omega), e1]
    rcases e2 with e2 | ⟨a, ha, e2⟩
    · rw [e2, if_pos rfl, if_pos rfl]; exact Or.inl ⟨rfl, rfl⟩
    · rw [e2, if_neg (show ¬ nI a = -1 from nI_nM (by omega)), if_neg (show ¬ nI a = -1 from nI_nM (by omega))]
      by_cases hag : nI a = nI g
      · rw [if_pos hag, if_pos hag]; exact Or.inl ⟨rfl, rfl⟩
      · obtain ⟨f, hf, e3, e4⟩ := gc.fol a ha
        have h2 : (f >>> g) % 2 < 2 := Nat.mod_lt _ (by decide)
        rw [if_neg hag, if_neg hag, il4, nI_mul, nI_add, Nat.mul_comm a 4, chk_in (by omega) (by decide), nI_clamp (n := 4 * a + g) (by omega), e4 g hg, chk_in ha (by decide), nI_clamp (n := a) (by omega), e3, fol_bit f hf g hg]
        by_cases h0 : (f >>> g) % 2 = 0
        · rw [h0, if_pos nI_0, if_neg (by decide)]; exact Or.inr ⟨rfl, rfl⟩
        · rw [show (f >>> g) % 2 = 1 from by omega, if_neg (by decide), if_pos (by decide)]; exact Or.inl ⟨rfl, rfl⟩
  rcases key with ⟨k1, k2⟩ | ⟨k1, k2⟩
  · have : fitB σ g w = true := decide_eq_true k1
    rw [this, if_pos rfl]; exact ⟨k1, k2⟩
  · have : fitB σ g w = false := decide_eq_false (by rw [k1]; decide)
    rw [this, if_neg Bool.false_ne_true]; exact ⟨k1, k2⟩
def okW (σ : tyS) (g w : Nat) : Bool := decide (σ.1 20 w = nM) && fitB σ g w
/-- the wagon of a track with d wagons before it, where it may be promised -/
def cand (σ : tyS) (L : Nat → List Nat) (y g d t : Nat) : Option Nat := match (L (5 * y + t)).reverse[d]? with
  | some w => if okW σ g w = true then some w else none
  | none => none
theorem cand_none {σ : tyS} {L : Nat → List Nat} {y g d t : Nat} (h : (L (5 * y + t)).length ≤ d) : cand σ L y g d t = none := by
  unfold cand
  rw [List.getElem?_eq_none (by rw [List.length_reverse]; exact h)]
theorem cand_at {σ : tyS} {L : Nat → List Nat} {y g d t w : Nat} (hd : d < (L (5 * y + t)).length) (h : (L (5 * y + t))[(L (5 * y + t)).length - 1 - d]? = some w) : cand σ L y g d t = if okW σ g w = true then some w else none := by
  unfold cand
  rw [List.getElem?_reverse hd, h]
def Best (σ : tyS) (L : Nat → List Nat) (y g : Nat) (r : Int32) : Prop := (r = nM ∧ ∀ d t, d < 6 → t < 5 → cand σ L y g d t = none) ∨ ∃ d t w, d < 6 ∧ t < 5 ∧ cand σ L y g d t = some w ∧ r = nI w ∧ ∀ d' t', d' < 6 → t' < 5 → cand σ L y g d' t' ≠ none → d < d' ∨ (d = d' ∧ t ≤ t')
theorem Best.uniq {σ : tyS} {L : Nat → List Nat} {y g : Nat} {r1 r2 : Int32} (h1 : Best σ L y g r1) (h2 : Best σ L y g r2) : r1 = r2 := by
  rcases h1 with ⟨rfl, h1⟩ | ⟨d, t, w, hd, ht, hc, rfl, hm⟩ <;> rcases h2 with ⟨rfl, h2⟩ | ⟨d', t', w', hd', ht', hc', rfl, hm'⟩
  · rfl
  · rw [h1 d' t' hd' ht'] at hc'; cases hc'
  · rw [h2 d t hd ht] at hc; cases hc
  · have a1 := hm d' t' hd' ht' (by rw [hc']; intro e; cases e)
    have a2 := hm' d t hd ht (by rw [hc]; intro e; cases e)
    have e1 : d = d' := by omega
    have e2 : t = t' := by omega
    subst e1; subst e2
    rw [hc] at hc'
    cases hc'
    rfl
theorem T_find_in {σ μ : tyS} {L B : Nat → List Nat} {n m y g d : Nat} {K : Int32 → Int32 → Int32 → Int32 → Option Int32} (hR : Rows (σ.1 6) (σ.1 7) 55 L) (hp : Pl L n) (gc : Gc σ μ n) (gb : Gb σ μ B n m) (n30 : n ≤ 30) (hy : y < 3) (hg : g < 4) (hd : d < 6) : ∀ (e t f : Nat), 5 - t = e → t ≤ 5 → e < f → (∀ t', t' < t → cand σ L y g d t' = none) → (∃ t' w, t' < 5 ∧ cand σ L y g d t' = some w ∧ (∀ t'', t'' < t' → cand σ L y g d t'' = none) ∧ tyl_T_findWagon_11 σ K f (nI y) (nI g) (nI d) (nI t) = some (nI w)) ∨ ((∀ t', t' < 5 → cand σ L y g d t' = none) ∧ ∃ z, tyl_T_findWagon_11 σ K f (nI y) (nI g) (nI d) (nI t) = K (nI y) (nI g) (nI d) z) := by
  intro e
  induction e with
  | zero =>
    intro t f he ht hf hn
    obtain ⟨f, rfl⟩ : ∃ g, f = g + 1 := ⟨f - 1, by omega⟩
    refine Or.inr ⟨fun t' ht' => hn t' (by omega), nI t, ?_⟩
    show tyb_T_findWagon_11 _ _ _ _ _ _ _ = _
    unfold tyb_T_findWagon_11
    rw [il5, if_pos (nI_le (by omega) (by omega))]
  | succ e ih =>
    intro t f he ht hf hn
    obtain ⟨f, rfl⟩ : ∃ g, f = g + 1 := ⟨f - 1, by omega⟩
    have hr : 5 * y + t < 15 := by omega
    have hl := hR.len (r := 5 * y + t) (by omega)
    have ht5 : ¬ (5 : Int32) ≤ nI t := by rw [il5]; exact nI_ge (by omega) (by omega)
    have next : cand σ L y g d t = none → tyl_T_findWagon_11 σ K (f + 1) (nI y) (nI g) (nI d) (nI t) = tyl_T_findWagon_11 σ K f (nI y) (nI g) (nI d) (nI t + 1) → (∃ t' w, t' < 5 ∧ cand σ L y g d t' = some w ∧ (∀ t'', t'' < t' → cand σ L y g d t'' = none) ∧ tyl_T_findWagon_11 σ K (f + 1) (nI y) (nI g) (nI d) (nI t) = some (nI w)) ∨ ((∀ t', t' < 5 → cand σ L y g d t' = none) ∧ ∃ z, tyl_T_findWagon_11 σ K (f + 1) (nI y) (nI g) (nI d) (nI t) = K (nI y) (nI g) (nI d) z) := by
      intro h1 h2
      rw [h2, il1, nI_add]
      refine ih (t + 1) f (by omega) (by omega) (by omega) (fun t' ht' => ?_)
      by_cases htt : t' = t
      · rw [htt]; exact h1
      · exact hn t' (by omega)
    by_cases hdl : (L (5 * y + t)).length ≤ d
    · refine next (cand_none hdl) ?_
      show tyb_T_findWagon_11 _ _ _ _ _ _ _ = _
      unfold tyb_T_findWagon_11
      rw [if_neg ht5, T_rowOf_v, bR_s, R1_count_v hR (by omega), bR_s]
      by_cases h0 : (L (5 * y + t)).length = 0
      · have : (nI (L (5 * y + t)).length - 1) - nI d < 0 := by
          rw [h0]
          have : ∀ d, d < 6 → (nI 0 - 1) - nI d < 0 := by decide
          exact this d hd
        rw [if_pos this]
      · have : (nI (L (5 * y + t)).length - 1) - nI d < 0 := by
          have : ∀ a, a < 7 → ∀ d, d < 6 → a ≤ d → (nI a - 1) - nI d < 0 := by decide
          exact this _ (by omega) d hd hdl
        rw [if_pos this]
    · obtain ⟨w, hw⟩ := lt_get? (l := L (5 * y + t)) (i := (L (5 * y + t)).length - 1 - d) (by omega)
      have hwn := (hp.1 (5 * y + t) (by omega)).2 w (get?_mem hw)
      have hc := cand_at (σ := σ) (g := g) (by omega) hw
      have ev : tyl_T_findWagon_11 σ K (f + 1) (nI y) (nI g) (nI d) (nI t) = if σ.1 20 w = -1 then (bR (tyf_T_fits σ (nI w) (nI g)) fun r9 => if r9 = 0 then tyl_T_findWagon_11 σ K f (nI y) (nI g) (nI d) (nI t + 1) else some (nI w)) else tyl_T_findWagon_11 σ K f (nI y) (nI g) (nI d) (nI t + 1) := by
        show tyb_T_findWagon_11 _ _ _ _ _ _ _ = _
        unfold tyb_T_findWagon_11 tyf_L_bookingFor
        rw [if_neg ht5, T_rowOf_v, bR_s, R1_count_v hR (by omega), bR_s, il1, nI_sub (by omega), nI_sub (by omega), if_neg (nI_pos (by omega)), R1_get_v hR (by omega) hw, bR_s, chk_in (by omega) (by decide), bR_s, nI_clamp (by omega)]
      obtain ⟨f1, -⟩ := fits_v gc hwn n30 hg
      rw [f1, bR_s] at ev
      by_cases hs : σ.1 20 w = -1
      · rw [if_pos hs] at ev
        by_cases hf9 : fitB σ g w = true
        · have hok : okW σ g w = true := by unfold okW; rw [hf9, Bool.and_true]; exact decide_eq_true hs
          rw [if_pos hok] at hc
          rw [if_pos hf9, if_neg (show ¬ (1 : Int32) = 0 by decide)] at ev
          exact Or.inl ⟨t, w, by omega, hc, hn, ev⟩
        · have hok : ¬ okW σ g w = true := fun h => hf9 (Bool.and_eq_true _ _ ▸ h).2
          rw [if_neg hok] at hc
          rw [if_neg hf9, if_pos rfl] at ev
          exact next hc ev
      · have hok : ¬ okW σ g w = true := fun h => hs (of_decide_eq_true (Bool.and_eq_true _ _ ▸ h).1)
        rw [if_neg hok] at hc
        rw [if_neg hs] at ev
        exact next hc ev
theorem T_find_v {σ μ : tyS} {L B : Nat → List Nat} {n m y g : Nat} (hR : Rows (σ.1 6) (σ.1 7) 55 L) (hp : Pl L n) (gc : Gc σ μ n) (gb : Gb σ μ B n m) (n30 : n ≤ 30) (hy : y < 3) (hg : g < 4) : ∃ r, tyf_T_findWagon σ (nI y) (nI g) = some r ∧ Best σ L y g r := by
  have lp : ∀ (e d f : Nat), 6 - d = e → d ≤ 6 → e < f → (∀ d', d' < d → ∀ t', t' < 5 → cand σ L y g d' t' = none) → ∃ r, tyl_T_findWagon_2 σ (fun x1 x2 x3 => some (-1)) f (nI y) (nI g) (nI d) = some r ∧ Best σ L y g r := by
    intro e
    induction e with
    | zero =>
      intro d f he hd hf hn
      obtain ⟨f, rfl⟩ : ∃ g, f = g + 1 := ⟨f - 1, by omega⟩
      refine ⟨nM, ?_, Or.inl ⟨rfl, fun d' t' h1 h2 => hn d' (by omega) t' h2⟩⟩
      show tyb_T_findWagon_2 _ _ _ _ _ _ = _
      unfold tyb_T_findWagon_2
      rw [il6, if_pos (nI_le (by omega) (by omega))]
    | succ e ih =>
      intro d f he hd hf hn
      obtain ⟨f, rfl⟩ : ∃ g, f = g + 1 := ⟨f - 1, by omega⟩
      have ev : tyl_T_findWagon_2 σ (fun x1 x2 x3 => some (-1)) (f + 1) (nI y) (nI g) (nI d) = tyl_T_findWagon_11 σ (fun x1 x2 x3 x4 => tyl_T_findWagon_2 σ (fun x1 x2 x3 => some (-1)) f x1 x2 (x3 + 1)) 64 (nI y) (nI g) (nI d) (nI 0) := by
        show tyb_T_findWagon_2 _ _ _ _ _ _ = _
        unfold tyb_T_findWagon_2
        rw [il6, if_neg (nI_ge (by omega) (by omega))]
        rfl
      rw [ev]
      rcases T_find_in (K := fun x1 x2 x3 x4 => tyl_T_findWagon_2 σ (fun x1 x2 x3 => some (-1)) f x1 x2 (x3 + 1)) (d := d) hR hp gc gb n30 hy hg (by omega) 5 0 64 (by omega) (by omega) (by omega) (fun t' h => absurd h (Nat.not_lt_zero _)) with ⟨t, w, ht, hc, hlt, e1⟩ | ⟨hno, z, e1⟩
      · refine ⟨nI w, e1, Or.inr ⟨d, t, w, by omega, ht, hc, rfl, fun d' t' h1 h2 h3 => ?_⟩⟩
        by_cases hdd : d' < d
        · exact absurd (hn d' hdd t' h2) h3
        · by_cases he2 : d' = d
          · subst he2
            by_cases htt : t' < t
            · exact absurd (hlt t' htt) h3
            · exact Or.inr ⟨rfl, by omega⟩
          · exact Or.inl (by omega)
      · rw [e1]
        rw [il1, nI_add]
        refine ih (d + 1) f (by omega) (by omega) (by omega) (fun d' h1 t' h2 => ?_)
        by_cases hdd : d' = d
        · rw [hdd]; exact hno t' h2
        · exact hn d' (by omega) t' h2
  unfold tyf_T_findWagon
  exact lp 6 0 64 (by omega) (by omega) (by omega) (fun d' h => absurd h (Nat.not_lt_zero _))
/-! the reference's search -/
def MB (σ : tyS) (L : Nat → List Nat) (y g : Nat) (S : Nat → Nat → Prop) (best bb : Int32) : Prop := (best = nM ∧ bb = nI 6 ∧ ∀ d t, S d t → cand σ L y g d t = none) ∨ ∃ d t w, S d t ∧ d < 6 ∧ t < 5 ∧ cand σ L y g d t = some w ∧ best = nI w ∧ bb = nI d ∧ ∀ d' t', S d' t' → cand σ L y g d' t' ≠ none → d < d' ∨ (d = d' ∧ t ≤ t')
theorem MB.ext {σ : tyS} {L : Nat → List Nat} {y g : Nat} {S S' : Nat → Nat → Prop} {best bb : Int32} (h : MB σ L y g S best bb) (h1 : ∀ d t, S d t → S' d t) (h2 : ∀ d t, S' d t → S d t ∨ cand σ L y g d t = none) : MB σ L y g S' best bb := by
  rcases h with ⟨e1, e2, h⟩ | ⟨d, t, w, hS, hd, ht, hc, e1, e2, h⟩
  · refine Or.inl ⟨e1, e2, fun d t h3 => ?_⟩
    rcases h2 d t h3 with h3 | h3
    · exact h d t h3
    · exact h3
  · refine Or.inr ⟨d, t, w, h1 d t hS, hd, ht, hc, e1, e2, fun d' t' h3 h4 => ?_⟩
    rcases h2 d' t' h3 with h3 | h3
    · exact h d' t' h3 h4
    · exact absurd h3 h4
def Sti (L : Nat → List Nat) (y t i d' t' : Nat) : Prop := d' < 6 ∧ t' < 5 ∧ (t' < t ∨ (t' = t ∧ (L (5 * y + t)).length - i ≤ d'))
theorem M_find_in {σ μ : tyS} {L B : Nat → List Nat} {n m y g t : Nat} {K : Int32 → Int32 → Int32 → Int32 → Int32 → Int32 → Int32 → Option Int32} (hR : Rows (μ.1 4) (μ.1 5) 15 L) (hp : Pl L n) (gc : Gc σ μ n) (gb : Gb σ μ B n m) (n30 : n ≤ 30) (hy : y < 3) (hg : g < 4) (ht : t < 5) : ∀ (e i f : Nat) (best bb : Int32), (L (5 * y + t)).length - i = e → i ≤ (L (5 * y + t)).length → e < f → MB σ L y g (Sti L y t i) best bb → ∃ best' bb' z, MB σ L y g (Sti L y t (L (5 * y + t)).length) best' bb' ∧ tyl_M_finds_26 μ K f (nI y) (nI g) best bb (nI t) (nI (5 * y + t)) (nI i) = K (nI y) (nI g) best' bb' (nI t) (nI (5 * y + t)) z := by
  intro e
  have hr : 5 * y + t < 15 := by omega
  have hl := hR.len hr
  induction e with
  | zero =>
    intro i f best bb he hi hf hM
    obtain ⟨f, rfl⟩ : ∃ g, f = g + 1 := ⟨f - 1, by omega⟩
    have hil : i = (L (5 * y + t)).length := by omega
    rw [hil] at hM
    refine ⟨best, bb, nI i, hM, ?_⟩
    show tyb_M_finds_26 _ _ _ _ _ _ _ _ _ _ = _
    unfold tyb_M_finds_26
    rw [chk_in hr (by decide), nI_clamp (by omega), hR.c hr, if_pos (nI_le (by omega) (by omega))]
  | succ e ih =>
    intro i f best bb he hi hf hM
    obtain ⟨f, rfl⟩ : ∃ g, f = g + 1 := ⟨f - 1, by omega⟩
    obtain ⟨w, hw⟩ := lt_get? (l := L (5 * y + t)) (i := i) (by omega)
    have hwn := (hp.1 (5 * y + t) (by omega)).2 w (get?_mem hw)
    have hc := cand_at (σ := σ) (L := L) (y := y) (t := t) (w := w) (g := g) (d := (L (5 * y + t)).length - 1 - i) (by omega) (by rw [show (L (5 * y + t)).length - 1 - ((L (5 * y + t)).length - 1 - i) = i from by omega]; exact hw)
    obtain ⟨-, f1⟩ := fits_v gc hwn n30 hg
    have ev : tyl_M_finds_26 μ K (f + 1) (nI y) (nI g) best bb (nI t) (nI (5 * y + t)) (nI i) = (bR (tyf_M_isPromised μ (nI w)) fun r6 => if r6 = 0 then (if (if fitB σ g w = true then (1 : Int32) else 0) = 0 then tyl_M_finds_26 μ K f (nI y) (nI g) best bb (nI t) (nI (5 * y + t)) (nI (i + 1)) else if bb ≤ nI ((L (5 * y + t)).length - 1 - i) then tyl_M_finds_26 μ K f (nI y) (nI g) best bb (nI t) (nI (5 * y + t)) (nI (i + 1)) else tyl_M_finds_26 μ K f (nI y) (nI g) (nI w) (nI ((L (5 * y + t)).length - 1 - i)) (nI t) (nI (5 * y + t)) (nI (i + 1))) else tyl_M_finds_26 μ K f (nI y) (nI g) best bb (nI t) (nI (5 * y + t)) (nI (i + 1))) := by
      show tyb_M_finds_26 _ _ _ _ _ _ _ _ _ _ = _
      unfold tyb_M_finds_26
      rw [chk_in hr (by decide), nI_clamp (by omega), hR.c hr, if_neg (nI_ge (by omega) (by omega)), il6, nI_mul, nI_add, chk_in (by omega) (by decide), chk_in hr (by decide), nI_clamp (by omega), hR.e hr hw, f1, bR_s, il1, nI_sub (by omega), nI_sub (by omega), nI_add]
    have skip : (okW σ g w = true → ∃ d0, d0 ≤ (L (5 * y + t)).length - 1 - i ∧ bb = nI d0) → MB σ L y g (Sti L y t (i + 1)) best bb := by
      intro hsk
      by_cases hok : okW σ g w = true
      · obtain ⟨d0, hd0, eb⟩ := hsk hok
        rcases hM with ⟨e1, e2, h⟩ | ⟨d, t0, w0, hS, hd, ht0, hc0, e1, e2, h⟩
        · rw [e2] at eb
          have := (nI_eq (by omega) (by omega)).mp eb
          omega
        · rw [e2] at eb
          have hdd := (nI_eq (by omega) (by omega)).mp eb
          refine Or.inr ⟨d, t0, w0, ?_, hd, ht0, hc0, e1, e2, fun d' t' h3 h4 => ?_⟩
          · obtain ⟨q1, q2, q3⟩ := hS
            refine ⟨q1, q2, ?_⟩
            rcases q3 with q3 | ⟨q3, q4⟩
            · exact Or.inl q3
            · exact Or.inr ⟨q3, by omega⟩
          · by_cases hold : Sti L y t i d' t'
            · exact h d' t' hold h4
            · obtain ⟨q1, q2, q3⟩ := h3
              have ht' : t' = t ∧ d' = (L (5 * y + t)).length - 1 - i := by
                rcases q3 with q3 | ⟨q3, q4⟩
                · exact absurd ⟨q1, q2, Or.inl q3⟩ hold
                · refine ⟨q3, ?_⟩
                  have : ¬ (L (5 * y + t)).length - i ≤ d' := fun q => hold ⟨q1, q2, Or.inr ⟨q3, q⟩⟩
                  omega
              have ht0t : t0 ≤ t := by
                rcases hS.2.2 with q | q
                · omega
                · omega
              by_cases hlt : d < d'
              · exact Or.inl hlt
              · exact Or.inr ⟨by omega, by omega⟩
      · rw [if_neg hok] at hc
        refine hM.ext (fun d' t' h => ?_) (fun d' t' h => ?_)
        · obtain ⟨q1, q2, q3⟩ := h
          refine ⟨q1, q2, ?_⟩
          rcases q3 with q3 | ⟨q3, q4⟩
          · exact Or.inl q3
          · exact Or.inr ⟨q3, by omega⟩
        · by_cases hold : Sti L y t i d' t'
          · exact Or.inl hold
          · obtain ⟨q1, q2, q3⟩ := h
            have ht' : t' = t ∧ d' = (L (5 * y + t)).length - 1 - i := by
              rcases q3 with q3 | ⟨q3, q4⟩
              · exact absurd ⟨q1, q2, Or.inl q3⟩ hold
              · refine ⟨q3, ?_⟩
                have : ¬ (L (5 * y + t)).length - i ≤ d' := fun q => hold ⟨q1, q2, Or.inr ⟨q3, q⟩⟩
                omega
            rw [ht'.1, ht'.2]
            exact Or.inr hc
    rw [ev]
    rcases isPromised_v gb hwn n30 with ⟨s1, s2⟩ | ⟨b, hb, s1, -, s2⟩
    · rw [s2, bR_s, if_pos rfl]
      by_cases hf9 : fitB σ g w = true
      · have hok : okW σ g w = true := by unfold okW; rw [hf9, Bool.and_true]; exact decide_eq_true s1
        rw [if_pos hf9, if_neg (show ¬ (1 : Int32) = 0 by decide)]
        have hbb : ∃ d0, d0 ≤ 6 ∧ bb = nI d0 := by
          rcases hM with ⟨-, e2, -⟩ | ⟨d, t0, w0, -, hd, -, -, -, e2, -⟩
          · exact ⟨6, by omega, e2⟩
          · exact ⟨d, by omega, e2⟩
        obtain ⟨d0, hd0, ebb⟩ := hbb
        by_cases hle : d0 ≤ (L (5 * y + t)).length - 1 - i
        · rw [if_pos (by rw [ebb]; exact nI_le hle (by omega))]
          exact ih (i + 1) f best bb (by omega) (by omega) (by omega) (skip (fun _ => ⟨d0, hle, ebb⟩))
        · rw [if_neg (by rw [ebb]; exact nI_ge (by omega) (by omega))]
          rw [if_pos hok] at hc
          refine ih (i + 1) f _ _ (by omega) (by omega) (by omega) (Or.inr ⟨(L (5 * y + t)).length - 1 - i, t, w, ⟨by omega, ht, Or.inr ⟨rfl, by omega⟩⟩, by omega, ht, hc, rfl, rfl, fun d' t' h3 h4 => ?_⟩)
          by_cases hold : Sti L y t i d' t'
          · rcases hM with ⟨-, -, h⟩ | ⟨d, t0, w0, -, hd, -, -, -, e2, h⟩
            · exact absurd (h d' t' hold) h4
            · rw [e2] at ebb
              have := (nI_eq (by omega) (by omega)).mp ebb
              have := h d' t' hold h4
              exact Or.inl (by omega)
          · obtain ⟨q1, q2, q3⟩ := h3
            rcases q3 with q3 | ⟨q3, q4⟩
            · exact absurd ⟨q1, q2, Or.inl q3⟩ hold
            · have : ¬ (L (5 * y + t)).length - i ≤ d' := fun q => hold ⟨q1, q2, Or.inr ⟨q3, q⟩⟩
              exact Or.inr ⟨by omega, by omega⟩
      · rw [if_neg hf9, if_pos rfl]
        exact ih (i + 1) f best bb (by omega) (by omega) (by omega) (skip (fun h => absurd (Bool.and_eq_true _ _ ▸ h).2 hf9))
    · rw [s2, bR_s, if_neg (show ¬ (1 : Int32) = 0 by decide)]
      have m40 := gb.m40
      exact ih (i + 1) f best bb (by omega) (by omega) (by omega) (skip (fun h => absurd (s1.symm.trans (of_decide_eq_true (Bool.and_eq_true _ _ ▸ h).1)) (nI_nM (by omega))))
theorem M_find_v {σ μ : tyS} {L B : Nat → List Nat} {n m y g : Nat} (hR : Rows (μ.1 4) (μ.1 5) 15 L) (hp : Pl L n) (gc : Gc σ μ n) (gb : Gb σ μ B n m) (n30 : n ≤ 30) (hy : y < 3) (hg : g < 4) : ∃ r, tyf_M_finds μ (nI y) (nI g) = some r ∧ Best σ L y g r := by
  have lp : ∀ (e t f : Nat) (best bb : Int32), 5 - t = e → t ≤ 5 → e < f → MB σ L y g (fun d' t' => d' < 6 ∧ t' < t) best bb → ∃ r, tyl_M_finds_9 μ (fun x1 x2 x3 x4 x5 => some x3) f (nI y) (nI g) best bb (nI t) = some r ∧ Best σ L y g r := by
    intro e
    induction e with
    | zero =>
      intro t f best bb he ht hf hM
      obtain ⟨f, rfl⟩ : ∃ g, f = g + 1 := ⟨f - 1, by omega⟩
      have : t = 5 := by omega
      subst this
      refine ⟨best, ?_, ?_⟩
      · show tyb_M_finds_9 _ _ _ _ _ _ _ _ = _
        unfold tyb_M_finds_9
        rw [il5, if_pos (nI_le (by omega) (by omega))]
      · rcases hM with ⟨e1, e2, h⟩ | ⟨d, t0, w0, hS, hd, ht0, hc0, e1, e2, h⟩
        · exact Or.inl ⟨e1, fun d t h1 h2 => h d t ⟨h1, h2⟩⟩
        · exact Or.inr ⟨d, t0, w0, hd, ht0, hc0, e1, fun d' t' h1 h2 h3 => h d' t' ⟨h1, h2⟩ h3⟩
    | succ e ih =>
      intro t f best bb he ht hf hM
      obtain ⟨f, rfl⟩ : ∃ g, f = g + 1 := ⟨f - 1, by omega⟩
      have ev : tyl_M_finds_9 μ (fun x1 x2 x3 x4 x5 => some x3) (f + 1) (nI y) (nI g) best bb (nI t) = tyl_M_finds_26 μ (fun x1 x2 x3 x4 x5 x6 x7 => tyl_M_finds_9 μ (fun x1 x2 x3 x4 x5 => some x3) f x1 x2 x3 x4 (x5 + 1)) 64 (nI y) (nI g) best bb (nI t) (nI (5 * y + t)) (nI 0) := by
        show tyb_M_finds_9 _ _ _ _ _ _ _ _ = _
        unfold tyb_M_finds_9
        rw [il5, if_neg (nI_ge (by omega) (by omega)), nI_mul, nI_add]
        rfl
      have hl := hR.len (r := 5 * y + t) (by omega)
      obtain ⟨best', bb', z, hM', e1⟩ := M_find_in (K := fun x1 x2 x3 x4 x5 x6 x7 => tyl_M_finds_9 μ (fun x1 x2 x3 x4 x5 => some x3) f x1 x2 x3 x4 (x5 + 1)) hR hp gc gb n30 hy hg (t := t) (by omega) (L (5 * y + t)).length 0 64 best bb (by omega) (by omega) (by omega) (hM.ext (fun d' t' h => ⟨h.1, by omega, Or.inl h.2⟩) (fun d' t' h => by
        obtain ⟨q1, q2, q3⟩ := h
        rcases q3 with q3 | ⟨q3, q4⟩
        · exact Or.inl ⟨q1, q3⟩
        · rw [q3]; exact Or.inr (cand_none (by omega))))
      rw [ev, e1, il1, nI_add]
      refine ih (t + 1) f best' bb' (by omega) (by omega) (by omega) (hM'.ext (fun d' t' h => ?_) (fun d' t' h => Or.inl ?_))
      · obtain ⟨q1, q2, q3⟩ := h
        exact ⟨q1, by omega⟩
      · refine ⟨h.1, by omega, ?_⟩
        by_cases hlt : t' < t
        · exact Or.inl hlt
        · exact Or.inr ⟨by omega, by omega⟩
  unfold tyf_M_finds
  exact lp 5 0 64 nM (nI 6) (by omega) (by omega) (by omega) (Or.inl ⟨rfl, rfl, fun d t h => absurd h.2 (Nat.not_lt_zero _)⟩)
