/-! ===== the pure part: calls and bookings, read ===== -/
theorem goesOn_v {σ μ : tyS} {m c j : Nat} (g : Gk σ μ m c) (hj : j < c) : (μ.1 11 j = nI 1 ∧ tyf_B_goesOn σ (nI j) = some 1) ∨ (μ.1 11 j = nI 0 ∧ tyf_B_goesOn σ (nI j) = some 0) := by
  have c60 := g.c60
  obtain ⟨q, hq, e⟩ := g.cu j hj
  unfold tyf_B_goesOn
  rw [chk_in (by omega) (by decide), nI_clamp (by omega), g.e21, e, chk_in hq (by decide), nI_clamp (by omega)]
  rcases g.go j hj with h0 | h1
  · refine Or.inr ⟨h0, ?_⟩
    rw [if_neg]
    intro e2
    rcases g.on1 q hq with h2 | ⟨i, hi, h2, h3, h4⟩
    · exact nM_nI (by omega) (h2.symm.trans e2)
    · have := (nI_eq (by omega) (by omega)).mp (h2.symm.trans e2)
      subst this
      rw [h0] at h4
      exact absurd h4 (by decide)
  · refine Or.inl ⟨h1, ?_⟩
    rw [if_pos (g.on2 j hj h1 q hq e)]
theorem T_requireOngoing_t {σ μ : tyS} {m c j : Nat} (g : Gk σ μ m c) (hj : j < c) (h : μ.1 11 j = nI 1) : tyf_T_requireOngoing σ (nI j) = some (0, 0, σ) := by
  unfold tyf_T_requireOngoing
  rcases goesOn_v g hj with ⟨-, e⟩ | ⟨h0, -⟩
  · rw [e, bR_s, if_neg (by decide)]
  · rw [h] at h0; exact absurd h0 (by decide)
theorem T_requireOngoing_f {σ μ : tyS} {m c j : Nat} (g : Gk σ μ m c) (hj : j < c) (h : μ.1 11 j = nI 0) : tyf_T_requireOngoing σ (nI j) = some (2, 0, σ) := by
  unfold tyf_T_requireOngoing
  rcases goesOn_v g hj with ⟨h0, -⟩ | ⟨-, e⟩
  · rw [h] at h0; exact absurd h0 (by decide)
  · rw [e, bR_s, if_pos rfl]
theorem callNow_lp {σ μ : tyS} {m c q : Nat} (g : Gk σ μ m c) (hq : q < 6) : ∀ (d j f : Nat) (x : Int32), c - j = d → j ≤ c → d < f → ((∃ i, i < j ∧ σ.1 26 q = nI i) → x = σ.1 26 q) → ((¬ ∃ i, i < j ∧ σ.1 26 q = nI i) → x = nM) → tyl_M_callNow_4 μ (fun x1 x2 x3 => some x2) f (nI q) x (nI j) = some (σ.1 26 q) := by
  intro d
  have c60 := g.c60
  induction d with
  | zero =>
    intro j f x hd hj hf h1 h2
    obtain ⟨f, rfl⟩ : ∃ g, f = g + 1 := ⟨f - 1, by omega⟩
    have hjc : j = c := by omega
    subst hjc
    have hx : x = σ.1 26 q := by
      rcases g.on1 q hq with h3 | ⟨i, hi, h3, -⟩
      · rw [h3]
        refine h2 (fun ⟨i, hi, e⟩ => ?_)
        rw [h3] at e
        exact nM_nI (by omega) e
      · exact h1 ⟨i, hi, h3⟩
    show tyb_M_callNow_4 _ _ _ _ _ _ = _
    unfold tyb_M_callNow_4
    rw [g.mc, if_pos (nI_le (by omega) (by omega)), hx]
  | succ d ih =>
    intro j f x hd hj hf h1 h2
    obtain ⟨f, rfl⟩ : ∃ g, f = g + 1 := ⟨f - 1, by omega⟩
    have hjc : j < c := by omega
    have a1 : c - (j + 1) = d := by clear h1 h2; omega
    have a2 : j + 1 ≤ c := hjc
    have a3 : d < f := by clear h1 h2; omega
    obtain ⟨r, hr, er⟩ := g.cu j hjc
    have hun : ∀ i, i < j + 1 → ¬ i < j → i = j := fun i _ _ => by omega
    show tyb_M_callNow_4 _ _ _ _ _ _ = _
    unfold tyb_M_callNow_4
    rw [g.mc, if_neg (nI_ge hjc (by omega)), chk_in (by omega) (by decide), nI_clamp (by omega)]
    rcases g.go j hjc with h0 | h0
    · rw [h0, if_pos (by decide), il1, nI_add]
      have hno : σ.1 26 q ≠ nI j := by
        intro e
        rcases g.on1 q hq with h3 | ⟨i, hi, h3, h4, h5⟩
        · rw [h3] at e; exact nM_nI (by omega) e
        · have := (nI_eq (by omega) (by omega)).mp (h3.symm.trans e)
          subst this
          rw [h0] at h5; exact absurd h5 (by decide)
      refine ih (j + 1) f x a1 a2 a3 (fun ⟨i, hi, e⟩ => h1 ⟨i, ?_, e⟩) (fun hn => h2 (fun ⟨i, hi, e⟩ => hn ⟨i, Nat.lt_succ_of_lt hi, e⟩))
      by_cases hij : i < j
      · exact hij
      · rw [hun i hi hij] at e; exact absurd e hno
    · rw [h0, if_neg (by decide), chk_in (by omega) (by decide), er]
      by_cases hrq : r = q
      · subst hrq
        rw [if_pos rfl, il1, nI_add]
        have e := g.on2 j hjc h0 r hr er
        exact ih (j + 1) f (nI j) a1 a2 a3 (fun _ => e.symm) (fun hn => absurd ⟨j, Nat.lt_succ_self j, e⟩ hn)
      · rw [if_neg (fun e => hrq ((nI_eq (by omega) (by omega)).mp e)), il1, nI_add]
        have hno : σ.1 26 q ≠ nI j := by
          intro e
          rcases g.on1 q hq with h3 | ⟨i, hi, h3, h4, h5⟩
          · rw [h3] at e; exact nM_nI (by omega) e
          · have := (nI_eq (by omega) (by omega)).mp (h3.symm.trans e)
            subst this
            rw [er] at h4
            exact hrq ((nI_eq (by omega) (by omega)).mp h4)
        refine ih (j + 1) f x a1 a2 a3 (fun ⟨i, hi, e⟩ => h1 ⟨i, ?_, e⟩) (fun hn => h2 (fun ⟨i, hi, e⟩ => hn ⟨i, Nat.lt_succ_of_lt hi, e⟩))
        by_cases hij : i < j
        · exact hij
        · rw [hun i hi hij] at e; exact absurd e hno
theorem callNow_v {σ μ : tyS} {m c q : Nat} (g : Gk σ μ m c) (hq : q < 6) : tyf_M_callNow μ (nI q) = some (σ.1 26 q) := by
  have c60 := g.c60
  unfold tyf_M_callNow
  exact callNow_lp g hq c 0 64 (-1) (by omega) (by omega) (by omega) (fun ⟨i, hi, _⟩ => absurd hi (Nat.not_lt_zero i)) (fun _ => rfl)
theorem op_callOf {k : Nat} {σ μ : tyS} (h : Inv k σ μ) (hk : k < 512) (p1 : Int32) : ∃ res v μ', tyf_T_callOf σ p1 = some res ∧ tyf_M_callOf μ p1 = some (v, μ') ∧ Ag [1] res v μ' ∧ Inv (k + 1) res.2.2 μ' := by
  obtain ⟨L, B, n, T, hh, m, c, i⟩ := h
  unfold tyf_T_callOf tyf_M_callOf tyf_B_ongoing
  rw [show (5 : Int32) = nI 6 - 1 from by decide]
  by_cases hx : isIx 6 p1
  · obtain ⟨q, hq, rfl⟩ := hx
    have g2 : Gk σ (sV μ 0 0) m c := i.gk.fr (Fr.rf (as := []) (vs := [])) Fr.sV
    rw [T_requireCustomer_t hq, bX_r, chk_in hq (by decide), bR_s, M_in_t (by decide) hq, bR_s, if_neg (by decide), stp_e, callNow_v g2 hq, bR_s, nI_clamp (by omega)]
    exact i.good rfl rfl sV_eq Fr.sV Fr.rf
  · rw [T_requireCustomer_f hx, bX_1, M_in_f (by decide) hx, bR_s, if_pos rfl, stp_e]
    exact i.bad (kk := 1) rfl rfl sV_eq Fr.sV Fr.rf
/-- how many of the first n -/
def cW (P : Nat → Bool) : Nat → Nat
  | 0 => 0
  | n + 1 => cW P n + (if P n then 1 else 0)
theorem cW_le (P : Nat → Bool) : ∀ n, cW P n ≤ n := by
  intro n
  induction n with
  | zero => exact Nat.le_refl _
  | succ n ih => unfold cW; split <;> omega
theorem cW_congr {P Q : Nat → Bool} : ∀ n, (∀ i, i < n → P i = Q i) → cW P n = cW Q n := by
  intro n
  induction n with
  | zero => intro _; rfl
  | succ n ih => intro h; unfold cW; rw [ih (fun i hi => h i (by omega)), h n (by omega)]
theorem way_lp {μ : tyS} {p : Int32} {P : Nat → Bool} (h0 : μ.2 0 = 0) (hP : ∀ s, s < 6 → (μ.1 7 s = p ↔ P s = true)) : ∀ (d j f : Nat), 6 - j = d → j ≤ 6 → d < f → tyl_M_way_34 (fun σ0 x1 x2 x3 => some (x2, σ0)) f μ p (nI (cW P j)) (nI j) = some (nI (cW P 6), μ) := by
  intro d
  induction d with
  | zero =>
    intro j f hd hj hf
    obtain ⟨f, rfl⟩ : ∃ g, f = g + 1 := ⟨f - 1, by omega⟩
    have : j = 6 := by omega
    subst this
    show tyb_M_way_34 _ _ _ _ _ _ = _
    unfold tyb_M_way_34
    rw [il6, if_pos (nI_le (by omega) (by omega))]
  | succ d ih =>
    intro j f hd hj hf
    obtain ⟨f, rfl⟩ : ∃ g, f = g + 1 := ⟨f - 1, by omega⟩
    show tyb_M_way_34 _ _ _ _ _ _ = _
    unfold tyb_M_way_34
    rw [il6, if_neg (nI_ge (by omega) (by omega)), if_pos h0, chk_in (by omega) (by decide), nI_clamp (by omega)]
    have hs := ih (j + 1) f (by omega) (by omega) (by omega)
    by_cases hp : P j = true
    · rw [if_pos ((hP j (by omega)).mpr hp), il1, nI_add, nI_add]
      rw [show cW P (j + 1) = cW P j + 1 from by show _ + (if P j = true then 1 else 0) = _; rw [if_pos hp]] at hs
      exact hs
    · rw [if_neg (fun e => hp ((hP j (by omega)).mp e)), il1, il0, nI_add, nI_add]
      rw [show cW P (j + 1) = cW P j + 0 from by show _ + (if P j = true then 1 else 0) = _; rw [if_neg hp]] at hs
      exact hs
theorem way_bad {μ : tyS} {p x : Int32} (hx : ¬ x = 0) : tyl_M_way_34 (fun σ0 x1 x2 x3 => some (x2, σ0)) 64 (sV μ 0 x) p 0 0 = some (0, sV μ 0 x) := by
  show tyb_M_way_34 _ _ _ _ _ _ = _
  unfold tyb_M_way_34
  rw [if_neg (by decide), sV_eq, if_neg hx]
theorem cW1 : ∀ a, a < 6 → cW (fun s => decide (s = a)) 6 = 1 := by decide
theorem cW2 : ∀ a, a < 6 → ∀ b, b < 6 → a ≠ b → cW (fun s => decide (s = a) || decide (s = b)) 6 = 2 := by decide
theorem trunksOf_v {σ μ : tyS} {m c j : Nat} (g : Gk σ μ m c) (hj : j < c) (h1 : μ.1 11 j = nI 1) : ∃ P : Nat → Bool, (∀ s, s < 6 → (μ.1 7 s = nI j ↔ P s = true)) ∧ tyf_B_trunksOf σ (nI j) = some (nI (cW P 6)) := by
  have c60 := g.c60
  obtain ⟨ha, hb, hab, ht⟩ := g.tr2 j hj h1
  unfold tyf_B_trunksOf
  rw [chk_in (by omega) (by decide), chk_in (by omega) (by decide), chk_in (by omega) (by decide), nI_clamp (by omega)]
  rcases ha with ha | ⟨a, ha6, ha⟩ <;> rcases hb with hb | ⟨b, hb6, hb⟩
  · refine ⟨fun _ => false, fun s hs => ?_, ?_⟩
    · rw [ht s hs, ha, hb]
      constructor
      · rintro (e | e) <;> exact absurd e (nM_nI (by omega))
      · intro e; exact absurd e Bool.false_ne_true
    · rw [ha, hb, if_pos rfl, if_pos rfl]; rfl
  · refine ⟨fun s => decide (s = b), fun s hs => ?_, ?_⟩
    · rw [ht s hs, ha, hb, decide_eq_true_iff]
      constructor
      · rintro (e | e)
        · exact absurd e (nM_nI (by omega))
        · exact ((nI_eq (by omega) (by omega)).mp e).symm
      · intro e; rw [e]; exact Or.inr rfl
    · rw [ha, hb, if_pos rfl, if_neg (nI_nM (by omega)), cW1 b hb6]; rfl
  · refine ⟨fun s => decide (s = a), fun s hs => ?_, ?_⟩
    · rw [ht s hs, ha, hb, decide_eq_true_iff]
      constructor
      · rintro (e | e)
        · exact ((nI_eq (by omega) (by omega)).mp e).symm
        · exact absurd e (nM_nI (by omega))
      · intro e; rw [e]; exact Or.inl rfl
    · rw [ha, hb, if_pos rfl, if_neg (nI_nM (by omega)), cW1 a ha6]; rfl
  · have hne : a ≠ b := by
      rintro rfl
      rcases hab with e | e
      · rw [ha] at e; exact nI_nM (by omega) e
      · exact e (ha.trans hb.symm)
    refine ⟨fun s => decide (s = a) || decide (s = b), fun s hs => ?_, ?_⟩
    · rw [ht s hs, ha, hb, Bool.or_eq_true, decide_eq_true_iff, decide_eq_true_iff]
      constructor
      · rintro (e | e)
        · exact Or.inl ((nI_eq (by omega) (by omega)).mp e).symm
        · exact Or.inr ((nI_eq (by omega) (by omega)).mp e).symm
      · rintro (e | e)
        · rw [e]; exact Or.inl rfl
        · rw [e]; exact Or.inr rfl
    · rw [ha, hb, if_neg (nI_nM (by omega)), if_neg (nI_nM (by omega)), cW2 a ha6 b hb6 hne]; rfl
theorem op_way {k : Nat} {σ μ : tyS} (h : Inv k σ μ) (hk : k < 512) (p1 : Int32) : ∃ res v μ', tyf_T_way σ p1 = some res ∧ tyf_M_way μ p1 = some (v, μ') ∧ Ag [3, 2] res v μ' ∧ Inv (k + 1) res.2.2 μ' := by
  obtain ⟨L, B, n, T, hh, m, c, i⟩ := h
  have c60 := i.gk.c60
  unfold tyf_T_way tyf_M_way
  by_cases hx : isIx c p1
  · obtain ⟨j, hj, rfl⟩ := hx
    rw [T_requireCall_t i.gk.sc (by omega) hj, bX_r, M_isCall_t i.gk.mc (by omega) hj, bR_s, if_neg (by decide), chk_in (by omega) (by decide), nI_clamp (by omega)]
    rcases i.gk.go j hj with h0 | h1
    · rw [T_requireOngoing_f i.gk hj h0, bX_2, h0, if_pos nI_0, stp_e, way_bad (by decide)]
      exact i.bad (kk := 2) rfl rfl sV_eq Fr.sV Fr.rf
    · obtain ⟨P, g1, g2⟩ := trunksOf_v i.gk hj h1
      have g3 := way_lp (μ := sV μ 0 0) (p := nI j) (P := P) sV_eq g1 6 0 64 (by omega) (by omega) (by omega)
      rw [T_requireOngoing_t i.gk hj h1, bX_r, h1, if_neg (by decide), stp_e, g2, bR_s]
      exact i.good rfl g3 sV_eq Fr.sV Fr.rf
  · rw [T_requireCall_f i.gk.sc (by omega) hx, bX_3, M_isCall_f i.gk.mc (by omega) hx, bR_s, if_pos rfl, stp_e, way_bad (by decide)]
    exact i.bad (kk := 1) rfl rfl sV_eq Fr.sV Fr.rf
theorem op_busy {k : Nat} {σ μ : tyS} (h : Inv k σ μ) (hk : k < 512) : ∃ r μ', tyf_T_busy σ = some r ∧ tyf_M_busy μ = some (r, μ') ∧ Inv (k + 1) σ μ' := by
  obtain ⟨L, B, n, T, hh, m, c, i⟩ := h
  refine ⟨_, _, rfl, ?_, (i.thr 0).inv⟩
  unfold tyf_M_busy
  rw [stp_e, sV_ne (by decide), i.gs.busy]
theorem op_bookings {k : Nat} {σ μ : tyS} (h : Inv k σ μ) (hk : k < 512) : ∃ r μ', tyf_T_bookings σ = some r ∧ tyf_M_bookings μ = some (r, μ') ∧ Inv (k + 1) σ μ' := by
  obtain ⟨L, B, n, T, hh, m, c, i⟩ := h
  refine ⟨_, _, rfl, ?_, (i.thr 0).inv⟩
  unfold tyf_M_bookings
  rw [stp_e, sV_ne (by decide), i.gb.mm, ← i.gb.sm]
theorem op_trains {k : Nat} {σ μ : tyS} (h : Inv k σ μ) (hk : k < 512) : ∃ r μ', tyf_T_trains σ = some r ∧ tyf_M_trains μ = some (r, μ') ∧ Inv (k + 1) σ μ' := by
  obtain ⟨L, B, n, T, hh, m, c, i⟩ := h
  refine ⟨_, _, rfl, ?_, (i.thr 0).inv⟩
  unfold tyf_M_trains
  rw [stp_e, sV_ne (by decide), i.gy.mT, ← i.gy.sT]
theorem op_state {k : Nat} {σ μ : tyS} (h : Inv k σ μ) (hk : k < 512) (p1 : Int32) : ∃ res v μ', tyf_T_state σ p1 = some res ∧ tyf_M_state μ p1 = some (v, μ') ∧ Ag [3] res v μ' ∧ Inv (k + 1) res.2.2 μ' := by
  obtain ⟨L, B, n, T, hh, m, c, i⟩ := h
  have m40 := i.gb.m40
  unfold tyf_T_state tyf_M_state tyf_L_standing
  by_cases hx : isIx m p1
  · obtain ⟨b, hb, rfl⟩ := hx
    rw [T_requireBooking_t i.gb.sm (by omega) hb, bX_r, M_asksBooking_t i.gb.mm (by omega) hb, bN_s, if_neg (by decide), chk_in (by omega) (by decide), chk_in (by omega) (by decide), bR_s, i.gb.e16, sV_a]
    exact i.good rfl rfl sV_eq Fr.sV Fr.rf
  · rw [T_requireBooking_f i.gb.sm (by omega) hx, bX_3, M_asksBooking_f i.gb.mm (by omega) hx, bN_s, if_pos rfl]
    exact i.bad (kk := 1) rfl rfl sV_eq Fr.sV Fr.rf
theorem op_wagons {k : Nat} {σ μ : tyS} (h : Inv k σ μ) (hk : k < 512) (p1 : Int32) : ∃ res v μ', tyf_T_wagons σ p1 = some res ∧ tyf_M_wagons μ p1 = some (v, μ') ∧ Ag [3] res v μ' ∧ Inv (k + 1) res.2.2 μ' := by
  obtain ⟨L, B, n, T, hh, m, c, i⟩ := h
  have m40 := i.gb.m40
  unfold tyf_T_wagons tyf_M_wagons tyf_L_size
  by_cases hx : isIx m p1
  · obtain ⟨b, hb, rfl⟩ := hx
    rw [T_requireBooking_t i.gb.sm (by omega) hb, bX_r, M_asksBooking_t i.gb.mm (by omega) hb, bN_s, if_neg (by decide), chk_in (by omega) (by decide), chk_in (by omega) (by decide), bR_s, i.gb.e18, sV_a]
    exact i.good rfl rfl sV_eq Fr.sV Fr.rf
  · rw [T_requireBooking_f i.gb.sm (by omega) hx, bX_3, M_asksBooking_f i.gb.mm (by omega) hx, bN_s, if_pos rfl]
    exact i.bad (kk := 1) rfl rfl sV_eq Fr.sV Fr.rf
theorem op_wagonOf {k : Nat} {σ μ : tyS} (h : Inv k σ μ) (hk : k < 512) (p1 p2 : Int32) : ∃ res v μ', tyf_T_wagonOf σ p1 p2 = some res ∧ tyf_M_wagonOf μ p1 p2 = some (v, μ') ∧ Ag [3] res v μ' ∧ Inv (k + 1) res.2.2 μ' := by
  obtain ⟨L, B, n, T, hh, m, c, i⟩ := h
  have m40 := i.gb.m40
  unfold tyf_T_wagonOf tyf_M_wagonOf tyf_L_size tyf_L_get
  by_cases hx : isIx m p1
  · obtain ⟨b, hb, rfl⟩ := hx
    obtain ⟨hl, hc, he, -, -⟩ := i.gb.bl b hb
    rw [T_requireBooking_t i.gb.sm (by omega) hb, bX_r, M_isBooking_t i.gb.mm (by omega) hb, bR_s, if_neg (show ¬ (1 : Int32) = 0 by decide), chk_in (by omega) (by decide), chk_in (by omega) (by decide), bR_s, i.gb.e18, nI_clamp (by omega), hc, il30, nI_mul]
    by_cases hy : isIx (B b).length p2
    · obtain ⟨j, hj, rfl⟩ := hy
      obtain ⟨x, hx⟩ := lt_get? hj
      rw [if_neg (nI_pos (by omega)), if_pos (nI_lt hj (by omega)), nI_add, Nat.mul_comm b 30, chk_in (by omega) (by decide), nI_clamp (by omega), bR_s, i.gb.e19, he j x hx, M_in_t (by omega) hj, bR_s, if_neg (by decide), stp_e, nI_mul, nI_add, chk_in (by omega) (by decide), nI_clamp (by omega), sV_a, he j x hx]
      exact i.good rfl rfl sV_eq Fr.sV Fr.rf
    · rw [M_in_f (by omega) hy, bR_s, if_pos rfl, stp_e]
      rcases not_ix (by omega) hy with h1 | ⟨h1, h2⟩
      · rw [if_pos (by exact h1)]
        exact i.bad (kk := 1) rfl rfl sV_eq Fr.sV Fr.rf
      · rw [if_neg (by exact h1), if_neg (fun h3 => absurd h3 (Int32.not_lt.mpr h2))]
        exact i.bad (kk := 1) rfl rfl sV_eq Fr.sV Fr.rf
  · rw [T_requireBooking_f i.gb.sm (by omega) hx, bX_3, M_isBooking_f i.gb.mm (by omega) hx, bR_s, if_pos rfl, stp_e]
    exact i.bad (kk := 1) rfl rfl sV_eq Fr.sV Fr.rf
theorem op_lapses {k : Nat} {σ μ : tyS} (h : Inv k σ μ) (hk : k < 512) (p1 : Int32) : ∃ res v μ', tyf_T_lapses σ p1 = some res ∧ tyf_M_lapses μ p1 = some (v, μ') ∧ Ag [3, 2] res v μ' ∧ Inv (k + 1) res.2.2 μ' := by
  obtain ⟨L, B, n, T, hh, m, c, i⟩ := h
  have m40 := i.gb.m40
  unfold tyf_T_lapses tyf_M_lapses tyf_L_standing tyf_L_lapseTick
  by_cases hx : isIx m p1
  · obtain ⟨b, hb, rfl⟩ := hx
    rw [T_requireBooking_t i.gb.sm (by omega) hb, bX_r, M_isBooking_t i.gb.mm (by omega) hb, bR_s, if_neg (by decide), chk_in (by omega) (by decide), chk_in (by omega) (by decide), bR_s, i.gb.e16, nI_clamp (by omega)]
    by_cases hs : μ.1 13 b = 1
    · rw [if_pos hs, if_pos hs, stp_e, chk_in (by omega) (by decide), chk_in (by omega) (by decide), bR_s, i.gb.e17, i.gs.now, sV_a, sV_ne (by decide)]
      exact i.good rfl rfl sV_eq Fr.sV Fr.rf
    · rw [if_neg hs, if_neg hs, stp_e, chk_in (by omega) (by decide)]
      exact i.bad (kk := 2) rfl rfl sV_eq Fr.sV Fr.rf
  · rw [T_requireBooking_f i.gb.sm (by omega) hx, bX_3, M_isBooking_f i.gb.mm (by omega) hx, bR_s, if_pos rfl, stp_e]
    exact i.bad (kk := 1) rfl rfl sV_eq Fr.sV Fr.rf
theorem slotOf_v {σ : tyS} {a b x : Nat} (ha : a < 3) (hb : b < 3) (hab : a ≠ b) : tyf_T_slotOf σ (nI a) (nI b) (nI x) = some (nI (2 * (a + b - 1) + x)) := by
  unfold tyf_T_slotOf
  rw [nI_add, il1, nI_sub (by omega), il2, nI_mul, nI_add, Nat.mul_comm (a + b - 1) 2]
theorem between_v {σ : tyS} {a b : Nat} (ha : a < 3) (hb : b < 3) (hab : a ≠ b) : tyf_M_between σ (nI a) (nI b) = some (nI (2 * (a + b - 1))) := by
  unfold tyf_M_between
  rw [nI_add, il1, nI_sub (by omega), il2, nI_mul]
theorem op_trunk {k : Nat} {σ μ : tyS} (h : Inv k σ μ) (hk : k < 512) (p1 p2 p3 : Int32) : ∃ res v μ', tyf_T_trunk σ p1 p2 p3 = some res ∧ tyf_M_trunk μ p1 p2 p3 = some (v, μ') ∧ Ag [1] res v μ' ∧ Inv (k + 1) res.2.2 μ' := by
  obtain ⟨L, B, n, T, hh, m, c, i⟩ := h
  unfold tyf_T_trunk tyf_M_trunk tyf_B_trunkHas
  by_cases hx : isIx 3 p1 ∧ isIx 3 p2 ∧ p1 ≠ p2 ∧ isIx 2 p3
  · obtain ⟨⟨a, ha, rfl⟩, ⟨b, hb, rfl⟩, hab, ⟨x, hx, rfl⟩⟩ := hx
    have hab : a ≠ b := fun e => hab (by rw [e])
    rw [T_requireTrunk_t ha hb hx hab, bX_r, slotOf_v ha hb hab, bR_s, chk_in (by omega) (by decide), nI_clamp (by omega), bR_s, i.gk.e27, M_isTrunk_t ha hb hx hab, bR_s, if_neg (by decide), stp_e, between_v ha hb hab, bR_s, nI_add, chk_in (by omega) (by decide), nI_clamp (by omega), sV_a]
    exact i.good rfl rfl sV_eq Fr.sV Fr.rf
  · rw [T_requireTrunk_f hx, bX_1, M_isTrunk_f hx, bR_s, if_pos rfl, stp_e]
    exact i.bad (kk := 1) rfl rfl sV_eq Fr.sV Fr.rf
