/-! ===== the pure part: may a track's wagons go ===== -/
def allIn (L : Nat → List Nat) (r : Nat) (l : List Nat) : Bool := l.all (fun v => decide (v ∈ L r))
theorem bow_iff {σ μ : tyS} {B : Nat → List Nat} {n m b w : Nat} (g : Gb σ μ B n m) (hb : b < m) (hs : ¬ 4 ≤ μ.1 13 b) (hw : w < n) : σ.1 20 w = nI b ↔ w ∈ B b := by
  have m40 := g.m40
  constructor
  · intro e
    rcases g.bk w hw with ⟨-, h⟩ | ⟨b2, hb2, h1, h2, ⟨h3, h4⟩ | ⟨h3, h4⟩⟩
    · rw [h] at e; exact absurd e (nM_nI (by omega))
    · rw [h4] at e; exact absurd e (nM_nI (by omega))
    · rw [h4] at e
      have := (nI_eq (by omega) (by omega)).mp e
      rw [← this]; exact h2
  · intro h
    have e := g.act b hb hs w h
    rcases g.bk w hw with ⟨h1, -⟩ | ⟨b2, hb2, h1, h2, h3⟩
    · rw [h1] at e; exact absurd e (nM_nI (by omega))
    · rw [h1] at e
      have := (nI_eq (by omega) (by omega)).mp e
      subst this
      rcases h3 with ⟨h3, h4⟩ | ⟨h3, h4⟩
      · exact absurd h3 hs
      · exact h4
theorem stands_eq {σ μ : tyS} {L B : Nat → List Nat} {n m b r : Nat} (g : Gb σ μ B n m) (hp : Pl L n) (hr : r < 55) (hb : b < m) (hs : ¬ 4 ≤ μ.1 13 b) : ((L r).filter (fun w => decide (σ.1 20 w = nI b))).length = (B b).length ↔ allIn L r (B b) = true := by
  obtain ⟨hl, hc, he, hnd, hlt⟩ := g.bl b hb
  obtain ⟨hn, hn2⟩ := hp.1 r hr
  have mF : ∀ w, w ∈ (L r).filter (fun w => decide (σ.1 20 w = nI b)) ↔ (w ∈ L r ∧ w ∈ B b) := by
    intro w
    rw [List.mem_filter]
    constructor
    · rintro ⟨h1, h2⟩
      exact ⟨h1, (bow_iff g hb hs (hn2 w h1)).mp (of_decide_eq_true h2)⟩
    · rintro ⟨h1, h2⟩
      exact ⟨h1, decide_eq_true ((bow_iff g hb hs (hn2 w h1)).mpr h2)⟩
  have nF : ((L r).filter (fun w => decide (σ.1 20 w = nI b))).Nodup := hn.sublist List.filter_sublist
  constructor
  · intro e
    refine List.all_eq_true.mpr (fun v hv => decide_eq_true ?_)
    by_cases hvr : v ∈ L r
    · exact hvr
    · have h := sub_len _ ((B b).erase v) nF (fun x hx => by
        obtain ⟨h1, h2⟩ := (mF x).mp hx
        refine (List.mem_erase_of_ne (fun e : x = v => hvr (by rw [← e]; exact h1))).mpr h2)
      rw [List.length_erase_of_mem hv, e] at h
      have := List.length_pos_of_mem hv
      omega
  · intro h
    have h1 := sub_len _ (B b) nF (fun x hx => ((mF x).mp hx).2)
    have h2 := sub_len (B b) _ hnd (fun x hx => (mF x).mpr ⟨of_decide_eq_true (List.all_eq_true.mp h x hx), hx⟩)
    omega
theorem T_stands_v {σ μ : tyS} {L B : Nat → List Nat} {n m b r : Nat} (g : Gb σ μ B n m) (hR : Rows (σ.1 6) (σ.1 7) 55 L) (hp : Pl L n) (n30 : n ≤ 30) (hr : r < 55) (hb : b < m) (hs : ¬ 4 ≤ μ.1 13 b) : tyf_T_standsWhole σ (nI b) (nI r) = some (if allIn L r (B b) = true then 1 else 0) := by
  have m40 := g.m40
  have hl6 := hR.len hr
  obtain ⟨hl, hc, he, hnd, hlt⟩ := g.bl b hb
  have hF : ∀ j, (((L r).take j).filter (fun w => decide (σ.1 20 w = nI b))).length ≤ 6 := by
    intro j
    refine Nat.le_trans (List.length_filter_le _ _) ?_
    rw [List.length_take]; omega
  have lp : ∀ (d j f : Nat), (L r).length - j = d → j ≤ (L r).length → d < f → tyl_T_standsWhole_5 σ (fun x1 x2 x3 x4 => bR (tyf_L_size σ x1) fun r6 => if x3 = r6 then some 1 else some 0) f (nI b) (nI r) (nI (((L r).take j).filter (fun w => decide (σ.1 20 w = nI b))).length) (nI j) = some (if allIn L r (B b) = true then 1 else 0) := by
    intro d
    induction d with
    | zero =>
      intro j f hd hj hf
      obtain ⟨f, rfl⟩ : ∃ g, f = g + 1 := ⟨f - 1, by omega⟩
      have hjl : j = (L r).length := by omega
      have h6 := hF j
      show tyb_T_standsWhole_5 _ _ _ _ _ _ _ = _
      unfold tyb_T_standsWhole_5 tyf_L_size
      rw [R1_count_v hR hr, bR_s, if_pos (nI_le (by omega) (by omega))]
      show (bR (chk (inb (nI b) 40) (some (σ.1 18 (nI b).toNatClampNeg))) fun r6 => if nI (((L r).take j).filter (fun w => decide (σ.1 20 w = nI b))).length = r6 then some 1 else some 0) = _
      rw [chk_in (by omega) (by decide), nI_clamp (by omega), bR_s, g.e18, hc]
      have key := stands_eq g hp hr hb hs
      rw [hjl, List.take_length] at h6 ⊢
      by_cases ha : allIn L r (B b) = true
      · rw [if_pos ha, if_pos (by rw [key.mpr ha])]
      · rw [if_neg ha, if_neg (fun e => ha (key.mp ((nI_eq (by omega) (by omega)).mp e)))]
    | succ d ih =>
      intro j f hd hj hf
      obtain ⟨f, rfl⟩ : ∃ g, f = g + 1 := ⟨f - 1, by omega⟩
      obtain ⟨w, hw⟩ := lt_get? (l := L r) (i := j) (by omega)
      have hwn := (hp.1 r hr).2 w (get?_mem hw)
      have hs9 := ih (j + 1) f (by omega) (by omega) (by omega)
      rw [← take_snoc hw, List.filter_append, List.length_append] at hs9
      show tyb_T_standsWhole_5 _ _ _ _ _ _ _ = _
      unfold tyb_T_standsWhole_5 tyf_L_bookingFor
      rw [← nI_add j 1] at hs9
      rw [R1_count_v hR hr, bR_s, if_neg (nI_ge (by omega) (by omega)), R1_get_v hR hr hw, bR_s, chk_in (by omega) (by decide), bR_s, nI_clamp (by omega)]
      by_cases e : σ.1 20 w = nI b
      · rw [if_pos e]
        have e1 : ([w].filter (fun w => decide (σ.1 20 w = nI b))).length = 1 := by simp [e]
        rw [e1, ← nI_add _ 1] at hs9
        exact hs9
      · rw [if_neg e]
        have e1 : ([w].filter (fun w => decide (σ.1 20 w = nI b))).length = 0 := by simp [e]
        rw [e1, Nat.add_zero] at hs9
        exact hs9
  unfold tyf_T_standsWhole
  have h := lp (L r).length 0 64 (by omega) (by omega) (by omega)
  exact h
theorem M_areOn_v {σ μ : tyS} {L B : Nat → List Nat} {n m b r : Nat} (g : Gb σ μ B n m) (hW : Wh (μ.1 1) L) (hp : Pl L n) (n30 : n ≤ 30) (hr : r < 15) (hb : b < m) : tyf_M_areOn μ (nI b) (nI (pcode r)) = some (if allIn L r (B b) = true then 1 else 0) := by
  have m40 := g.m40
  obtain ⟨hl, hc, he, hnd, hlt⟩ := g.bl b hb
  have lp : ∀ (d j f : Nat), (B b).length - j = d → j ≤ (B b).length → d < f → tyl_M_areOn_5 μ (fun x1 x2 x3 x4 => chk (decide (vp_nar .boolean x3 = x3)) (some x3)) f (nI b) (nI (pcode r)) (if allIn L r ((B b).take j) = true then 1 else 0) (nI j) = some (if allIn L r (B b) = true then 1 else 0) := by
    intro d
    induction d with
    | zero =>
      intro j f hd hj hf
      obtain ⟨f, rfl⟩ : ∃ g, f = g + 1 := ⟨f - 1, by omega⟩
      have hjl : j = (B b).length := by omega
      rw [hjl, List.take_length]
      show tyb_M_areOn_5 _ _ _ _ _ _ _ = _
      unfold tyb_M_areOn_5
      rw [chk_in (by omega) (by decide), nI_clamp (by omega), hc, if_pos (nI_le (by omega) (by omega))]
      by_cases ha : allIn L r (B b) = true
      · rw [if_pos ha]; rfl
      · rw [if_neg ha]; rfl
    | succ d ih =>
      intro j f hd hj hf
      obtain ⟨f, rfl⟩ : ∃ g, f = g + 1 := ⟨f - 1, by omega⟩
      obtain ⟨w, hw⟩ := lt_get? (l := B b) (i := j) (by omega)
      have hwn := hlt w (get?_mem hw)
      have hs9 := ih (j + 1) f (by omega) (by omega) (by omega)
      have ea : allIn L r ((B b).take (j + 1)) = (allIn L r ((B b).take j) && decide (w ∈ L r)) := by
        rw [← take_snoc hw]; unfold allIn; rw [List.all_append]; simp
      rw [ea] at hs9
      show tyb_M_areOn_5 _ _ _ _ _ _ _ = _
      unfold tyb_M_areOn_5
      rw [chk_in (by omega) (by decide), nI_clamp (n := b) (by omega), hc, if_neg (nI_ge (by omega) (by omega)), il30, nI_mul, nI_add, chk_in (by omega) (by decide), nI_clamp (by omega), he j w hw, chk_in (by omega) (by decide), nI_clamp (by omega), il1, nI_add]
      by_cases ha : allIn L r ((B b).take j) = true
      · rw [ha, Bool.true_and] at hs9
        rw [ha, if_pos rfl, if_neg (by decide)]
        by_cases hwr : w ∈ L r
        · rw [if_pos ((hW.iff hp hwn hr).mpr hwr)]
          rw [decide_eq_true hwr, if_pos rfl] at hs9
          exact hs9
        · rw [if_neg (fun e => hwr ((hW.iff hp hwn hr).mp e))]
          rw [decide_eq_false hwr, if_neg Bool.false_ne_true] at hs9
          exact hs9
      · have ha := Bool.eq_false_iff.mpr ha
        rw [ha, Bool.false_and, if_neg Bool.false_ne_true] at hs9
        rw [ha, if_neg Bool.false_ne_true, if_pos rfl]
        exact hs9
  unfold tyf_M_areOn
  exact lp (B b).length 0 64 (by omega) (by omega) (by omega)
/-- a wagon's promise lets it go -/
def gW (σ μ : tyS) (L B : Nat → List Nat) (r w : Nat) : Bool := decide (¬ σ.1 20 w = nM) && (decide (μ.1 13 (σ.1 20 w).toNatClampNeg = 2) && allIn L r (B (σ.1 20 w).toNatClampNeg))
theorem T_canDepart_v {σ μ : tyS} {L B : Nat → List Nat} {n m r : Nat} (g : Gb σ μ B n m) (hR : Rows (σ.1 6) (σ.1 7) 55 L) (hp : Pl L n) (n30 : n ≤ 30) (hr : r < 55) : tyf_T_canDepart σ (nI r) = some (if (L r).all (gW σ μ L B r) = true ∧ L r ≠ [] then 1 else 0) := by
  have m40 := g.m40
  have hl6 := hR.len hr
  have lp : ∀ (d j f : Nat), (L r).length - j = d → j ≤ (L r).length → d < f → (∀ i w, i < j → (L r)[i]? = some w → gW σ μ L B r w = true) → tyl_T_canDepart_11 σ (fun x1 x2 x3 => if x2 ≤ 0 then some 0 else some 1) f (nI r) (nI (L r).length) (nI j) = some (if (L r).all (gW σ μ L B r) = true ∧ L r ≠ [] then 1 else 0) := by
    intro d
    induction d with
    | zero =>
      intro j f hd hj hf hn
      obtain ⟨f, rfl⟩ : ∃ g, f = g + 1 := ⟨f - 1, by omega⟩
      have hall : (L r).all (gW σ μ L B r) = true := List.all_eq_true.mpr (fun w hw => by
        obtain ⟨i, hi⟩ := List.mem_iff_getElem?.mp hw
        exact hn i w (by have := get?_lt hi; omega) hi)
      show tyb_T_canDepart_11 _ _ _ _ _ _ = _
      unfold tyb_T_canDepart_11
      rw [if_pos (nI_le (by omega) (by omega))]
      show (if nI (L r).length ≤ 0 then some 0 else some 1) = _
      by_cases h0 : L r = []
      · rw [if_neg (show ¬ ((L r).all (gW σ μ L B r) = true ∧ L r ≠ []) from fun e => e.2 h0), h0, if_pos (by decide)]
      · have : 0 < (L r).length := List.length_pos_iff.mpr h0
        rw [if_pos (show (L r).all (gW σ μ L B r) = true ∧ L r ≠ [] from ⟨hall, h0⟩), if_neg (nI_nle this (by omega))]
    | succ d ih =>
      intro j f hd hj hf hn
      obtain ⟨f, rfl⟩ : ∃ g, f = g + 1 := ⟨f - 1, by omega⟩
      obtain ⟨w, hw⟩ := lt_get? (l := L r) (i := j) (by omega)
      have hwn := (hp.1 r hr).2 w (get?_mem hw)
      have bad : gW σ μ L B r w ≠ true → ¬ ((L r).all (gW σ μ L B r) = true ∧ L r ≠ []) := fun h e => h (List.all_eq_true.mp e.1 w (get?_mem hw))
      have rcr : gW σ μ L B r w = true → tyl_T_canDepart_11 σ (fun x1 x2 x3 => if x2 ≤ 0 then some 0 else some 1) f (nI r) (nI (L r).length) (nI (j + 1)) = some (if (L r).all (gW σ μ L B r) = true ∧ L r ≠ [] then 1 else 0) := by
        intro h
        refine ih (j + 1) f (by omega) (by omega) (by omega) (fun i v hi hv => ?_)
        by_cases hij : i = j
        · subst hij
          rw [hw] at hv
          cases hv
          exact h
        · exact hn i v (by omega) hv
      show tyb_T_canDepart_11 _ _ _ _ _ _ = _
      unfold tyb_T_canDepart_11 tyf_L_bookingFor
      rw [if_neg (nI_ge (by omega) (by omega)), R1_get_v hR hr hw, bR_s, chk_in (by omega) (by decide), bR_s, nI_clamp (n := w) (by omega)]
      rw [← nI_add j 1] at rcr
      rcases g.bk w hwn with ⟨-, e⟩ | ⟨b, hb, e1, e2, e3⟩
      · have hg : gW σ μ L B r w ≠ true := by unfold gW; rw [e]; simp
        rw [e, if_pos rfl, if_neg (bad hg)]
      · rcases e3 with ⟨e3, e⟩ | ⟨e3, e⟩
        · have hg : gW σ μ L B r w ≠ true := by unfold gW; rw [e]; simp
          rw [e, if_pos rfl, if_neg (bad hg)]
        · have hbM : ¬ nI b = nM := nI_nM (by omega)
          have gv : gW σ μ L B r w = (decide (μ.1 13 b = 2) && allIn L r (B b)) := by
            unfold gW; rw [e, nI_clamp (by omega), decide_eq_true hbM, Bool.true_and]
          have sv : tyf_L_standing σ (nI b) = some (μ.1 13 b) := by
            unfold tyf_L_standing
            rw [chk_in (by omega) (by decide), nI_clamp (by omega), g.e16]
          rw [e, if_neg (show ¬ nI b = -1 from hbM), sv, bR_s]
          by_cases hs : μ.1 13 b = 2
          · rw [if_pos hs, T_stands_v g hR hp n30 hr hb e3, bR_s]
            rw [decide_eq_true hs, Bool.true_and] at gv
            by_cases ha : allIn L r (B b) = true
            · rw [if_pos ha, if_neg (by decide)]
              exact rcr (by rw [gv]; exact ha)
            · rw [if_neg ha, if_pos rfl, if_neg (bad (by rw [gv]; exact ha))]
          · rw [decide_eq_false hs, Bool.false_and] at gv
            rw [if_neg hs, if_neg (bad (by rw [gv]; exact Bool.false_ne_true))]
  unfold tyf_T_canDepart
  rw [R1_count_v hR hr, bR_s]
  exact lp (L r).length 0 64 (by omega) (by omega) (by omega) (fun i w h => absurd h (Nat.not_lt_zero _))
theorem M_canDepart_v {σ μ : tyS} {L B : Nat → List Nat} {n m y t : Nat} (g : Gb σ μ B n m) (hR : Rows (μ.1 4) (μ.1 5) 15 L) (hW : Wh (μ.1 1) L) (hp : Pl L n) (n30 : n ≤ 30) (hy : y < 3) (ht : t < 5) : tyf_M_canDepart μ (nI y) (nI t) = some (if (L (5 * y + t)).all (gW σ μ L B (5 * y + t)) = true ∧ L (5 * y + t) ≠ [] then 1 else 0) := by
  have m40 := g.m40
  have hr : 5 * y + t < 15 := by omega
  generalize hre : 5 * y + t = r at hr ⊢
  have hl6 := hR.len hr
  have ecode : nI 10 * nI y + nI t = nI (pcode r) := by rw [← hre, pcode_of ht, nI_mul, nI_add]
  have lp0 : ∀ f j, j ≤ (L r).length → tyl_M_canDepart_25 μ (fun x1 x2 x3 x4 x5 => chk (decide (vp_nar .boolean x4 = x4)) (some x4)) (f + 1) (nI y) (nI t) (nI r) 0 (nI j) = some 0 := by
    intro f j hj
    show tyb_M_canDepart_25 _ _ _ _ _ _ _ _ = _
    unfold tyb_M_canDepart_25
    rw [chk_in hr (by decide), nI_clamp (by omega), hR.c hr, if_pos rfl]
    by_cases h : nI (L r).length ≤ nI j
    · rw [if_pos h]; rfl
    · rw [if_neg h]; rfl
  have lp : ∀ (d j f : Nat), L r ≠ [] → (L r).length - j = d → j ≤ (L r).length → d + 1 < f → (∀ i w, i < j → (L r)[i]? = some w → gW σ μ L B r w = true) → tyl_M_canDepart_25 μ (fun x1 x2 x3 x4 x5 => chk (decide (vp_nar .boolean x4 = x4)) (some x4)) f (nI y) (nI t) (nI r) 1 (nI j) = some (if (L r).all (gW σ μ L B r) = true ∧ L r ≠ [] then 1 else 0) := by
    intro d
    induction d with
    | zero =>
      intro j f h0 hd hj hf hn
      obtain ⟨f, rfl⟩ : ∃ g, f = g + 1 := ⟨f - 1, by omega⟩
      have hall : (L r).all (gW σ μ L B r) = true := List.all_eq_true.mpr (fun w hw => by
        obtain ⟨i, hi⟩ := List.mem_iff_getElem?.mp hw
        exact hn i w (by have := get?_lt hi; omega) hi)
      show tyb_M_canDepart_25 _ _ _ _ _ _ _ _ = _
      unfold tyb_M_canDepart_25
      rw [chk_in hr (by decide), nI_clamp (by omega), hR.c hr, if_pos (nI_le (by omega) (by omega)), if_pos ⟨hall, h0⟩]
      rfl
    | succ d ih =>
      intro j f h0 hd hj hf hn
      obtain ⟨f, rfl⟩ : ∃ g, f = g + 1 + 1 := ⟨f - 2, by omega⟩
      obtain ⟨w, hw⟩ := lt_get? (l := L r) (i := j) (by omega)
      have hwn := (hp.1 r (by omega)).2 w (get?_mem hw)
      have bad : gW σ μ L B r w ≠ true → ¬ ((L r).all (gW σ μ L B r) = true ∧ L r ≠ []) := fun h e => h (List.all_eq_true.mp e.1 w (get?_mem hw))
      have rcr : gW σ μ L B r w = true → tyl_M_canDepart_25 μ (fun x1 x2 x3 x4 x5 => chk (decide (vp_nar .boolean x4 = x4)) (some x4)) (f + 1) (nI y) (nI t) (nI r) 1 (nI (j + 1)) = some (if (L r).all (gW σ μ L B r) = true ∧ L r ≠ [] then 1 else 0) := by
        intro h
        refine ih (j + 1) (f + 1) h0 (by omega) (by omega) (by omega) (fun i v hi hv => ?_)
        by_cases hij : i = j
        · subst hij
          rw [hw] at hv
          cases hv
          exact h
        · exact hn i v (by omega) hv
      show tyb_M_canDepart_25 _ _ _ _ _ _ _ _ = _
      unfold tyb_M_canDepart_25
      rw [chk_in hr (by decide), nI_clamp (n := r) (by omega), hR.c hr, if_neg (nI_ge (by omega) (by omega)), if_neg (show ¬ (1 : Int32) = 0 by decide), il6, nI_mul, nI_add, chk_in (by omega) (by decide), nI_clamp (n := 6 * r + j) (by omega), hR.e hr hw, chk_in (by omega) (by decide), nI_clamp (n := w) (by omega), il10, ecode]
      rw [← nI_add j 1] at rcr
      have lp1 := lp0 f (j + 1) (by omega)
      rw [← nI_add j 1] at lp1
      rcases g.bk w hwn with ⟨e0, e⟩ | ⟨b, hb, e1, e2, e3⟩
      · have hg : gW σ μ L B r w ≠ true := by unfold gW; rw [e]; simp
        rw [e0, if_pos rfl, if_neg (bad hg)]
        exact lp1
      · have hbM : ¬ nI b = nM := nI_nM (by omega)
        rw [e1, if_neg (show ¬ nI b = -1 from hbM), chk_in (by omega) (by decide), nI_clamp (n := b) (by omega)]
        rcases e3 with ⟨e3, e⟩ | ⟨e3, e⟩
        · have hg : gW σ μ L B r w ≠ true := by unfold gW; rw [e]; simp
          have hs : ¬ μ.1 13 b = 2 := fun h => by rw [h] at e3; exact absurd e3 (by decide)
          rw [if_neg hs, if_neg (bad hg)]
          exact lp1
        · have gv : gW σ μ L B r w = (decide (μ.1 13 b = 2) && allIn L r (B b)) := by
            unfold gW; rw [e, nI_clamp (by omega), decide_eq_true hbM, Bool.true_and]
          by_cases hs : μ.1 13 b = 2
          · rw [if_pos hs, M_areOn_v g hW hp n30 hr hb, bR_s]
            rw [decide_eq_true hs, Bool.true_and] at gv
            by_cases ha : allIn L r (B b) = true
            · rw [if_pos ha, if_neg (by decide)]
              exact rcr (by rw [gv]; exact ha)
            · rw [if_neg ha, if_pos rfl, if_neg (bad (by rw [gv]; exact ha))]
              exact lp1
          · rw [decide_eq_false hs, Bool.false_and] at gv
            rw [if_neg hs, if_neg (bad (by rw [gv]; exact Bool.false_ne_true))]
            exact lp1
  unfold tyf_M_canDepart
  rw [il5, nI_mul, nI_add, hre, chk_in hr (by decide), nI_clamp (by omega), hR.c hr]
  by_cases h0 : L r = []
  · rw [h0, if_pos (by decide), if_neg (fun e => e.2 rfl)]
    exact lp0 63 0 (by omega)
  · have : 0 < (L r).length := List.length_pos_iff.mpr h0
    rw [if_neg (nI_nle this (by omega))]
    exact lp (L r).length 0 64 h0 (by omega) (by omega) (by omega) (fun i w h => absurd h (Nat.not_lt_zero _))
