/-! ===== the pure part: the calls that only read ===== -/
theorem InvD.bad {k : Nat} {σ μ : tyS} {L B : Nat → List Nat} {n T h m c : Nat} (i : InvD k σ μ L B n T h m c) {t : Option tyX} {mm : Option (Int32 × tyS)} {codes : List Nat} {cc kk : Nat} {v : Int32} {σ' μ' : tyS} (h1 : t = some (cc, 0, σ')) (h2 : mm = some (v, μ')) (hx : μ'.2 0 = nI kk) (f2 : Fr [] [0] μ μ') (f : Fr [8, 9] [] σ σ') (h3 : kOf codes cc = some kk := by decide) (h0 : kk ≠ 0 := by decide) : ∃ res v μ', t = some res ∧ mm = some (v, μ') ∧ Ag codes res v μ' ∧ Inv (k + 1) res.2.2 μ' :=
  ⟨_, v, μ', h1, h2, ⟨kk, h3, hx, fun h => absurd h h0⟩, (i.fr f f2).inv⟩
theorem InvD.good {k : Nat} {σ μ : tyS} {L B : Nat → List Nat} {n T h m c : Nat} (i : InvD k σ μ L B n T h m c) {t : Option tyX} {mm : Option (Int32 × tyS)} {codes : List Nat} {v : Int32} {σ' μ' : tyS} (h1 : t = some (0, v, σ')) (h2 : mm = some (v, μ')) (hx : μ'.2 0 = nI 0) (f2 : Fr [] [0] μ μ') (f : Fr [8, 9] [] σ σ') : ∃ res v μ', t = some res ∧ mm = some (v, μ') ∧ Ag codes res v μ' ∧ Inv (k + 1) res.2.2 μ' :=
  ⟨_, v, μ', h1, h2, ⟨0, rfl, hx, fun _ => rfl⟩, (i.fr f f2).inv⟩
theorem T_rowOf_v {σ : tyS} {y t : Nat} : tyf_T_rowOf σ (nI y) (nI t) = some (nI (5 * y + t)) := by
  unfold tyf_T_rowOf
  rw [il5, nI_mul, nI_add, Nat.mul_comm y 5]
theorem op_on {k : Nat} {σ μ : tyS} (h : Inv k σ μ) (hk : k < 512) (p1 p2 : Int32) : ∃ res v μ', tyf_T_on σ p1 p2 = some res ∧ tyf_M_on μ p1 p2 = some (v, μ') ∧ Ag [1] res v μ' ∧ Inv (k + 1) res.2.2 μ' := by
  obtain ⟨L, B, n, T, hh, m, c, i⟩ := h
  by_cases hp : isIx 3 p1 ∧ isIx 5 p2
  · obtain ⟨⟨y, hy, rfl⟩, ⟨t, ht, rfl⟩⟩ := hp
    have hr : 5 * y + t < 15 := by omega
    refine i.good (v := nI (L (5 * y + t)).length) (σ' := σ) (μ' := sV μ 0 0) ?_ ?_ sV_eq Fr.sV Fr.rf
    · unfold tyf_T_on
      rw [T_requireTrack_t hy ht, bX_r, T_rowOf_v, bR_s, R1_count_v i.gy.yd.rows (by omega), bR_s]
    · unfold tyf_M_on
      rw [M_isTrack_t hy ht, bR_s, if_neg (by decide), stp_e, il5, nI_mul, nI_add, chk_in hr (by decide), nI_clamp (by omega), sV_a, i.gy.mr.c hr]
  · refine i.bad (v := 0) (cc := 1) (σ' := σ) (μ' := sV μ 0 1) ?_ ?_ sV_eq Fr.sV Fr.rf
    · unfold tyf_T_on
      rw [T_requireTrack_f hp, bX_1]
    · unfold tyf_M_on
      rw [M_isTrack_f hp, bR_s, if_pos rfl, stp_e]
theorem wagonIn1_t {σ : tyS} {L : Nat → List Nat} {r i x : Nat} (h : Rows (σ.1 6) (σ.1 7) 55 L) (hr : r < 55) (hx : (L r)[i]? = some x) : tyf_T_wagonIn1 σ (nI r) (nI i) = some (0, nI x, σ) := by
  have := h.len hr
  have := get?_lt hx
  unfold tyf_T_wagonIn1
  rw [if_neg (nI_pos (by omega)), R1_count_v h hr, bR_s, if_pos (nI_lt (by omega) (by omega)), R1_get_v h hr hx, bR_s]
theorem wagonIn1_f {σ : tyS} {L : Nat → List Nat} {r : Nat} {p : Int32} (h : Rows (σ.1 6) (σ.1 7) 55 L) (hr : r < 55) (hx : ¬ isIx (L r).length p) : tyf_T_wagonIn1 σ (nI r) p = some (3, 0, σ) := by
  have := h.len hr
  unfold tyf_T_wagonIn1
  rcases not_ix (by omega) hx with h1 | ⟨h1, h2⟩
  · rw [if_pos (by exact h1)]
  · rw [if_neg (by exact h1), R1_count_v h hr, bR_s, if_neg (fun h3 => absurd h3 (Int32.not_lt.mpr h2))]
theorem wagonIn2_t {σ : tyS} {L : Nat → List Nat} {r i x : Nat} (h : Rows (σ.1 8) (σ.1 9) 55 L) (hr : r < 55) (hx : (L r)[i]? = some x) : tyf_T_wagonIn2 σ (nI r) (nI i) = some (0, nI x, σ) := by
  have := h.len hr
  have := get?_lt hx
  unfold tyf_T_wagonIn2
  rw [if_neg (nI_pos (by omega)), R2_count_v h hr, bR_s, if_pos (nI_lt (by omega) (by omega)), R2_get_v h hr hx, bR_s]
theorem wagonIn2_f {σ : tyS} {L : Nat → List Nat} {r : Nat} {p : Int32} (h : Rows (σ.1 8) (σ.1 9) 55 L) (hr : r < 55) (hx : ¬ isIx (L r).length p) : tyf_T_wagonIn2 σ (nI r) p = some (3, 0, σ) := by
  have := h.len hr
  unfold tyf_T_wagonIn2
  rcases not_ix (by omega) hx with h1 | ⟨h1, h2⟩
  · rw [if_pos (by exact h1)]
  · rw [if_neg (by exact h1), R2_count_v h hr, bR_s, if_neg (fun h3 => absurd h3 (Int32.not_lt.mpr h2))]
theorem M_wagonAt_0 {μ : tyS} {p1 p2 p3 : Int32} (hp : ¬ (isIx 3 p1 ∧ isIx 5 p2)) : tyf_M_wagonAt μ p1 p2 p3 = some (0, sV μ 0 1) := by
  unfold tyf_M_wagonAt
  rw [M_isTrack_f hp, bR_s, if_pos rfl, stp_e]
theorem M_wagonAt_f {μ : tyS} {L : Nat → List Nat} {y t : Nat} {p3 : Int32} (h : Rows (μ.1 4) (μ.1 5) 15 L) (hy : y < 3) (ht : t < 5) (hx : ¬ isIx (L (5 * y + t)).length p3) : tyf_M_wagonAt μ (nI y) (nI t) p3 = some (0, sV μ 0 2) := by
  have hr : 5 * y + t < 15 := by omega
  have := h.len hr
  unfold tyf_M_wagonAt
  rw [M_isTrack_t hy ht, bR_s, if_neg (by decide), il5, nI_mul, nI_add, chk_in hr (by decide), nI_clamp (by omega), h.c hr, M_in_f (by omega) hx, bR_s, if_pos rfl, stp_e]
theorem M_wagonAt_t {μ : tyS} {L : Nat → List Nat} {y t j x : Nat} (h : Rows (μ.1 4) (μ.1 5) 15 L) (hy : y < 3) (ht : t < 5) (hx : (L (5 * y + t))[j]? = some x) : tyf_M_wagonAt μ (nI y) (nI t) (nI j) = some (nI x, sV μ 0 0) := by
  have hr : 5 * y + t < 15 := by omega
  have := h.len hr
  have := get?_lt hx
  unfold tyf_M_wagonAt
  rw [M_isTrack_t hy ht, bR_s, if_neg (by decide), il5, nI_mul, nI_add, chk_in hr (by decide), nI_clamp (by omega), h.c hr, M_in_t (by omega) (by omega), bR_s, if_neg (by decide), stp_e, il6, nI_mul, nI_add, chk_in (by omega) (by decide), nI_clamp (by omega), sV_a, h.e hr hx]
theorem op_at {k : Nat} {σ μ : tyS} (h : Inv k σ μ) (hk : k < 512) (p1 p2 p3 : Int32) : ∃ res v μ', tyf_T_at σ p1 p2 p3 = some res ∧ tyf_M_at μ p1 p2 p3 = some (v, μ') ∧ Ag [1, 3] res v μ' ∧ Inv (k + 1) res.2.2 μ' := by
  obtain ⟨L, B, n, T, hh, m, c, i⟩ := h
  unfold tyf_T_at tyf_M_at
  by_cases hp : isIx 3 p1 ∧ isIx 5 p2
  · obtain ⟨⟨y, hy, rfl⟩, ⟨t, ht, rfl⟩⟩ := hp
    have hr : 5 * y + t < 15 := by omega
    rw [T_requireTrack_t hy ht, bX_r, T_rowOf_v, bR_s]
    by_cases hx : isIx (L (5 * y + t)).length p3
    · obtain ⟨j, hj, rfl⟩ := hx
      obtain ⟨x, hx⟩ := lt_get? hj
      rw [wagonIn1_t i.gy.yd.rows (by omega) hx, bX_r, M_wagonAt_t i.gy.mr hy ht hx, bN_s]
      exact i.good rfl rfl sV_eq Fr.sV Fr.rf
    · rw [wagonIn1_f i.gy.yd.rows (by omega) hx, bX_3, M_wagonAt_f i.gy.mr hy ht hx, bN_s]
      exact i.bad (kk := 2) rfl rfl sV_eq Fr.sV Fr.rf
  · rw [T_requireTrack_f hp, bX_1, M_wagonAt_0 hp, bN_s]
    exact i.bad (kk := 1) rfl rfl sV_eq Fr.sV Fr.rf
theorem op_atByReplay {k : Nat} {σ μ : tyS} (h : Inv k σ μ) (hk : k < 512) (p1 p2 p3 : Int32) : ∃ res v μ', tyf_T_atByReplay σ p1 p2 p3 = some res ∧ tyf_M_atByReplay μ p1 p2 p3 = some (v, μ') ∧ Ag [1, 3] res v μ' ∧ Inv (k + 1) res.2.2 μ' := by
  obtain ⟨L, B, n, T, hh, m, c, i⟩ := h
  unfold tyf_T_atByReplay tyf_M_atByReplay
  by_cases hp : isIx 3 p1 ∧ isIx 5 p2
  · obtain ⟨⟨y, hy, rfl⟩, ⟨t, ht, rfl⟩⟩ := hp
    have hr : 5 * y + t < 15 := by omega
    obtain ⟨τ, g1, g2, g3⟩ := replay_v i.gy.yd (by have := i.hk; omega)
    rw [T_requireTrack_t hy ht, bX_r, g1, bR_s, T_rowOf_v, bR_s]
    by_cases hx : isIx (L (5 * y + t)).length p3
    · obtain ⟨j, hj, rfl⟩ := hx
      obtain ⟨x, hx⟩ := lt_get? hj
      rw [wagonIn2_t g3 (by omega) hx, bX_r, M_wagonAt_t i.gy.mr hy ht hx, bN_s]
      exact i.good rfl rfl sV_eq Fr.sV g2
    · rw [wagonIn2_f g3 (by omega) hx, bX_3, M_wagonAt_f i.gy.mr hy ht hx, bN_s]
      exact i.bad (kk := 2) rfl rfl sV_eq Fr.sV g2
  · rw [T_requireTrack_f hp, bX_1, M_wagonAt_0 hp, bN_s]
    exact i.bad (kk := 1) rfl rfl sV_eq Fr.sV Fr.rf
/-! where -/
theorem find_in {σ : tyS} {L : Nat → List Nat} {K : Int32 → Int32 → Int32 → Option Int32} {w r : Nat} (h : Rows (σ.1 6) (σ.1 7) 55 L) (hr : r < 55) (hw : w < 30) (hb : ∀ x ∈ L r, x < 30) : ∀ (d j f : Nat), (L r).length - j = d → j ≤ (L r).length → d < f → (∀ i, i < j → (L r)[i]? ≠ some w) → (w ∈ L r → tyl_R1_findOnTracks_10 σ K f (nI w) (nI r) (nI j) = some (nI r)) ∧ (w ∉ L r → ∃ z, tyl_R1_findOnTracks_10 σ K f (nI w) (nI r) (nI j) = K (nI w) (nI r) z) := by
  intro d
  have hl := h.len hr
  induction d with
  | zero =>
    intro j f hd hj hf hn
    obtain ⟨f, rfl⟩ : ∃ g, f = g + 1 := ⟨f - 1, by omega⟩
    have e : tyl_R1_findOnTracks_10 σ K (f + 1) (nI w) (nI r) (nI j) = K (nI w) (nI r) (nI j) := by
      show tyb_R1_findOnTracks_10 _ _ _ _ _ _ = _
      unfold tyb_R1_findOnTracks_10
      rw [chk_in hr (by decide), nI_clamp (by omega), h.c hr, if_pos (nI_le (by omega) (by omega))]
    refine ⟨fun hm => ?_, fun _ => ⟨_, e⟩⟩
    obtain ⟨i, hi⟩ := List.mem_iff_getElem?.mp hm
    exact absurd hi (hn i (by have := get?_lt hi; omega))
  | succ d ih =>
    intro j f hd hj hf hn
    obtain ⟨f, rfl⟩ : ∃ g, f = g + 1 := ⟨f - 1, by omega⟩
    obtain ⟨x, hx⟩ := lt_get? (l := L r) (i := j) (by omega)
    by_cases hxw : x = w
    · subst hxw
      have e : tyl_R1_findOnTracks_10 σ K (f + 1) (nI x) (nI r) (nI j) = some (nI r) := by
        show tyb_R1_findOnTracks_10 _ _ _ _ _ _ = _
        unfold tyb_R1_findOnTracks_10
        rw [chk_in hr (by decide), nI_clamp (by omega), h.c hr, if_neg (nI_ge (by omega) (by omega)), R1_get_v h hr hx, bR_s, if_pos rfl]
      exact ⟨fun _ => e, fun hm => absurd (get?_mem hx) hm⟩
    · have hx30 := hb x (get?_mem hx)
      have e : tyl_R1_findOnTracks_10 σ K (f + 1) (nI w) (nI r) (nI j) = tyl_R1_findOnTracks_10 σ K f (nI w) (nI r) (nI (j + 1)) := by
        show tyb_R1_findOnTracks_10 _ _ _ _ _ _ = _
        unfold tyb_R1_findOnTracks_10
        rw [chk_in hr (by decide), nI_clamp (by omega), h.c hr, if_neg (nI_ge (by omega) (by omega)), R1_get_v h hr hx, bR_s, if_neg (fun e => hxw ((nI_eq (by omega) (by omega)).mp e)), il1, nI_add]
      rw [e]
      refine ih (j + 1) f (by omega) (by omega) (by omega) (fun i hi => ?_)
      by_cases hij : i = j
      · subst hij; rw [hx]; intro e; exact hxw (Option.some.inj e)
      · exact hn i (by omega)
theorem find_out {σ : tyS} {L : Nat → List Nat} {w : Nat} (h : Rows (σ.1 6) (σ.1 7) 55 L) (hw : w < 30) (hb : ∀ r, r < 15 → ∀ x ∈ L r, x < 30) : ∀ (d r f : Nat), 15 - r = d → r ≤ 15 → d < f → (∀ q, q < r → w ∉ L q) → (∀ q, q < 15 → w ∈ L q → tyl_R1_findOnTracks_2 σ (fun x1 x2 => some (-1)) f (nI w) (nI r) = some (nI q) ∨ ∃ s, s < 15 ∧ w ∈ L s ∧ tyl_R1_findOnTracks_2 σ (fun x1 x2 => some (-1)) f (nI w) (nI r) = some (nI s)) ∧ ((∀ q, q < 15 → w ∉ L q) → tyl_R1_findOnTracks_2 σ (fun x1 x2 => some (-1)) f (nI w) (nI r) = some nM) := by
  intro d
  induction d with
  | zero =>
    intro r f hd hr hf hn
    obtain ⟨f, rfl⟩ : ∃ g, f = g + 1 := ⟨f - 1, by omega⟩
    refine ⟨fun q hq hm => absurd hm (hn q (by omega)), fun _ => ?_⟩
    show tyb_R1_findOnTracks_2 _ _ _ _ _ = _
    unfold tyb_R1_findOnTracks_2
    rw [il15, if_pos (nI_le (by omega) (by omega))]
  | succ d ih =>
    intro r f hd hr hf hn
    obtain ⟨f, rfl⟩ : ∃ g, f = g + 1 := ⟨f - 1, by omega⟩
    have e : tyl_R1_findOnTracks_2 σ (fun x1 x2 => some (-1)) (f + 1) (nI w) (nI r) = tyl_R1_findOnTracks_10 σ (fun x1 x2 x3 => tyl_R1_findOnTracks_2 σ (fun x1 x2 => some (-1)) f x1 (x2 + 1)) 64 (nI w) (nI r) (nI 0) := by
      show tyb_R1_findOnTracks_2 _ _ _ _ _ = _
      unfold tyb_R1_findOnTracks_2
      rw [il15, if_neg (nI_ge (by omega) (by omega))]
      rfl
    have hl := h.len (r := r) (by omega)
    obtain ⟨g1, g2⟩ := find_in (K := (fun x1 x2 x3 => tyl_R1_findOnTracks_2 σ (fun x1 x2 => some (-1)) f x1 (x2 + 1))) h (by omega) hw (hb r (by omega)) (L r).length 0 64 (by omega) (by omega) (by omega) (fun i hi => absurd hi (Nat.not_lt_zero i))
    rw [e]
    by_cases hm : w ∈ L r
    · rw [g1 hm]
      exact ⟨fun q hq hq2 => Or.inr ⟨r, by omega, hm, rfl⟩, fun hno => absurd hm (hno r (by omega))⟩
    · obtain ⟨z, hz⟩ := g2 hm
      rw [hz, il1, nI_add]
      exact ih (r + 1) f (by omega) (by omega) (by omega) (fun q hq => by
        by_cases hqr : q = r
        · rw [hqr]; exact hm
        · exact hn q (by omega))
theorem wh_num : ∀ r, r < 15 → ((nI r / 5) * 10) + (nI r - nI r / 5 * 5) = nI (pcode r) := by decide
theorem op_where {k : Nat} {σ μ : tyS} (h : Inv k σ μ) (hk : k < 512) (p1 : Int32) : ∃ res v μ', tyf_T_where σ p1 = some res ∧ tyf_M_where μ p1 = some (v, μ') ∧ Ag [3] res v μ' ∧ Inv (k + 1) res.2.2 μ' := by
  obtain ⟨L, B, n, T, hh, m, c, i⟩ := h
  have n30 := i.gy.n30
  unfold tyf_T_where tyf_M_where
  by_cases hx : isIx n p1
  · obtain ⟨w, hw, rfl⟩ := hx
    rw [T_requireWagon_t i.gy.sn (by omega) hw, bX_r, M_asksWagon_t i.gy.mn (by omega) hw, bN_s, if_neg (by decide), chk_in (by omega) (by decide), nI_clamp (by omega), sV_a]
    unfold tyf_R1_findOnTracks
    obtain ⟨g1, g2⟩ := find_out (w := w) i.gy.yd.rows (by omega) (fun r hr x hx => by have := (i.gy.pl.1 r (by omega)).2 x hx; omega) 15 0 64 (by omega) (by omega) (by omega) (fun q hq => absurd hq (Nat.not_lt_zero q))
    by_cases ho : ∃ q, q < 15 ∧ w ∈ L q
    · obtain ⟨q, hq, hm⟩ := ho
      obtain ⟨s, hs, hm2, e⟩ : ∃ s, s < 15 ∧ w ∈ L s ∧ tyl_R1_findOnTracks_2 σ (fun x1 x2 => some (-1)) 64 (nI w) (nI 0) = some (nI s) := by
        rcases g1 q hq hm with e | e
        · exact ⟨q, hq, hm, e⟩
        · exact e
      rw [il0, e, bR_s, if_neg (nI_nM (by omega)), wh_num s hs, i.gy.wh s (by omega) w hm2, if_pos hs]
      exact i.good rfl rfl sV_eq Fr.sV Fr.rf
    · have e := g2 (fun q hq hm => ho ⟨q, hq, hm⟩)
      obtain ⟨s, hs, hm2⟩ := i.gy.pl.2.2 w hw
      have hs15 : ¬ s < 15 := fun hs2 => ho ⟨s, hs2, hm2⟩
      rw [il0, e, bR_s, if_pos rfl, i.gy.wh s hs w hm2, if_neg hs15]
      exact i.good rfl rfl sV_eq Fr.sV Fr.rf
  · rw [T_requireWagon_f i.gy.sn (by omega) hx, bX_3, M_asksWagon_f i.gy.mn (by omega) hx, bN_s, if_pos rfl]
    exact i.bad (kk := 1) rfl rfl sV_eq Fr.sV Fr.rf
theorem op_carried {k : Nat} {σ μ : tyS} (h : Inv k σ μ) (hk : k < 512) (p1 : Int32) : ∃ res v μ', tyf_T_carried σ p1 = some res ∧ tyf_M_carried μ p1 = some (v, μ') ∧ Ag [3] res v μ' ∧ Inv (k + 1) res.2.2 μ' := by
  obtain ⟨L, B, n, T, hh, m, c, i⟩ := h
  have n30 := i.gy.n30
  unfold tyf_T_carried tyf_M_carried
  by_cases hx : isIx n p1
  · obtain ⟨w, hw, rfl⟩ := hx
    rw [T_requireWagon_t i.gy.sn (by omega) hw, bX_r, M_asksWagon_t i.gy.mn (by omega) hw, bN_s, if_neg (by decide), chk_in (by omega) (by decide), chk_in (by omega) (by decide), nI_clamp (by omega), sV_a, (i.gc.car w hw).1]
    exact i.good rfl rfl sV_eq Fr.sV Fr.rf
  · rw [T_requireWagon_f i.gy.sn (by omega) hx, bX_3, M_asksWagon_f i.gy.mn (by omega) hx, bN_s, if_pos rfl]
    exact i.bad (kk := 1) rfl rfl sV_eq Fr.sV Fr.rf
theorem isPromised_v {σ μ : tyS} {B : Nat → List Nat} {n m w : Nat} (g : Gb σ μ B n m) (hw : w < n) (hn : n ≤ 30) : (σ.1 20 w = nM ∧ tyf_M_isPromised μ (nI w) = some 0) ∨ ∃ b, b < m ∧ σ.1 20 w = nI b ∧ μ.1 3 w = nI b ∧ tyf_M_isPromised μ (nI w) = some 1 := by
  have m40 := g.m40
  unfold tyf_M_isPromised
  rw [chk_in (by omega) (by decide), nI_clamp (by omega), chk_in (by omega) (by decide)]
  rcases g.bk w hw with ⟨h1, h2⟩ | ⟨b, hb, h1, h2, h3⟩
  · exact Or.inl ⟨h2, by rw [h1, if_pos rfl]⟩
  · rw [h1, if_neg (nI_nM (by omega)), chk_in (by omega) (by decide), nI_clamp (by omega)]
    rcases h3 with ⟨h3, h4⟩ | ⟨h3, h4⟩
    · exact Or.inl ⟨h4, by rw [if_pos h3]⟩
    · exact Or.inr ⟨b, hb, h4, rfl, by rw [if_neg h3]⟩
theorem op_promised {k : Nat} {σ μ : tyS} (h : Inv k σ μ) (hk : k < 512) (p1 : Int32) : ∃ res v μ', tyf_T_promised σ p1 = some res ∧ tyf_M_promised μ p1 = some (v, μ') ∧ Ag [3] res v μ' ∧ Inv (k + 1) res.2.2 μ' := by
  obtain ⟨L, B, n, T, hh, m, c, i⟩ := h
  have n30 := i.gy.n30
  unfold tyf_T_promised tyf_M_promised tyf_L_bookingFor
  by_cases hx : isIx n p1
  · obtain ⟨w, hw, rfl⟩ := hx
    have g2 : Gb σ (sV μ 0 0) B n m := i.gb.fr (Fr.rf (as := []) (vs := [])) Fr.sV
    rw [T_requireWagon_t i.gy.sn (by omega) hw, bX_r, M_asksWagon_t i.gy.mn (by omega) hw, bN_s, if_neg (by decide), chk_in (by omega) (by decide), nI_clamp (by omega), bR_s]
    rcases isPromised_v g2 hw n30 with ⟨h1, h2⟩ | ⟨b, hb, h1, h2, h3⟩
    · rw [h1, h2, bR_s, if_pos rfl]
      exact i.good rfl rfl sV_eq Fr.sV Fr.rf
    · rw [h1, h3, bR_s, if_neg (by decide), chk_in (by omega) (by decide), h2]
      exact i.good rfl rfl sV_eq Fr.sV Fr.rf
  · rw [T_requireWagon_f i.gy.sn (by omega) hx, bX_3, M_asksWagon_f i.gy.mn (by omega) hx, bN_s, if_pos rfl]
    exact i.bad (kk := 1) rfl rfl sV_eq Fr.sV Fr.rf
