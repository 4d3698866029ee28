/-! ===== the pure part: ask ===== -/
theorem op_ask {k : Nat} {σ μ : tyS} (h : Inv k σ μ) (hk : k < 512) (p1 p2 : Int32) : ∃ res v μ', tyf_T_ask σ p1 p2 = some res ∧ tyf_M_ask μ p1 p2 = some (v, μ') ∧ Ag [3, 1, 2] res v μ' ∧ Inv (k + 1) res.2.2 μ' := by
  obtain ⟨L, B, n, T, hh, m, c, i⟩ := h
  have c60 := i.gk.c60
  have m40 := i.gb.m40
  have n30 := i.gy.n30
  unfold tyf_T_ask tyf_M_ask
  by_cases hx : isIx c p1
  rotate_left
  · rw [T_requireCall_f i.gk.sc (by omega) hx, bX_3, M_isCall_f i.gk.mc (by omega) hx, bR_s, if_pos rfl, stp_e]
    exact i.bad (kk := 1) rfl rfl sV_eq Fr.sV Fr.rf
  obtain ⟨j, hj, rfl⟩ := hx
  rw [T_requireCall_t i.gk.sc (by omega) hj, bX_r, M_isCall_t i.gk.mc (by omega) hj, bR_s, if_neg (show ¬ (1 : Int32) = 0 by decide)]
  by_cases hy : isIx 4 p2
  rotate_left
  · rw [T_isGrain_f hy, bR_s, if_pos rfl, M_isGrain_f hy, bR_s, if_pos rfl, stp_e]
    exact i.bad (kk := 2) rfl rfl sV_eq Fr.sV Fr.rf
  obtain ⟨g, hg, rfl⟩ := hy
  rw [T_isGrain_t hg, bR_s, if_neg (show ¬ (1 : Int32) = 0 by decide), M_isGrain_t hg, bR_s, if_neg (show ¬ (1 : Int32) = 0 by decide), chk_in (by omega) (by decide), nI_clamp (n := j) (by omega)]
  rcases i.gk.go j hj with h0 | h1
  · rw [T_requireOngoing_f i.gk hj h0, bX_2, h0, if_pos nI_0, stp_e]
    exact i.bad (kk := 3) rfl rfl sV_eq Fr.sV Fr.rf
  obtain ⟨y, hyy, ey⟩ := i.gk.ya j hj
  have f00 : Fr [] [0] μ (sV (sV μ 0 0) 0 0) := (Fr.sV.tr Fr.sV).mono (by decide) (by decide)
  have gb0 : Gb σ (sV (sV μ 0 0) 0 0) B n m := i.gb.fr (Fr.rf (as := []) (vs := [])) f00
  have gc0 : Gc σ (sV (sV μ 0 0) 0 0) n := i.gc.fr (Fr.rf (as := []) (vs := [])) f00
  have gk0 : Gk σ (sV (sV μ 0 0) 0 0) m c := i.gk.fr (Fr.rf (as := []) (vs := [])) f00
  obtain ⟨r, t1, b1⟩ := T_find_v i.gy.yd.rows i.gy.pl i.gc i.gb n30 hyy hg
  obtain ⟨r2, t2, b2⟩ := M_find_v (μ := sV (sV μ 0 0) 0 0) i.gy.mr i.gy.pl gc0 gb0 n30 hyy hg
  have e2 := b1.uniq b2
  subst e2
  have yv : tyf_B_yard σ (nI j) = some (nI y) := by
    unfold tyf_B_yard
    rw [chk_in (by omega) (by decide), nI_clamp (by omega), i.gk.e22, ey]
  have cv : tyf_B_customer σ (nI j) = some (μ.1 9 j) := by
    unfold tyf_B_customer
    rw [chk_in (by omega) (by decide), nI_clamp (by omega), i.gk.e21]
  have ov : tyf_B_openBooking σ (nI j) = some (μ.1 12 j) := by
    unfold tyf_B_openBooking
    rw [chk_in (by omega) (by decide), nI_clamp (by omega), i.gk.e23]
  rw [T_requireOngoing_t i.gk hj h1, bX_r, h1, if_neg (show ¬ nI 1 = 0 by decide), stp_e, ov, bR_s, yv, bR_s, t1, bR_s, chk_in (by omega) (by decide), sV_a]
  rcases i.gk.op j hj with e | ⟨b, hb, e⟩
  · rw [e, if_pos rfl, if_pos rfl, if_pos rfl, sV_ne (by decide), i.gb.mm]
    unfold tyf_L_isFull
    rw [i.gb.sm, il40]
    by_cases hm : m < 40
    rotate_left
    · rw [if_neg (nI_nlt (by omega) (by omega)), bR_s, if_neg (show ¬ (1 : Int32) = 0 by decide), if_pos (nI_le (by omega) (by omega)), stp_e]
      exact i.bad (kk := 3) rfl rfl sV_eq ((Fr.sV.tr Fr.sV).mono (by decide) (by decide)) Fr.rf
    rw [if_pos (nI_lt hm (by omega)), bR_s, if_pos rfl, if_neg (nI_ge hm (by omega)), stp_e, chk_in (by omega) (by decide), sV_a, sV_a, ey, t2, bR_s]
    rcases b1.wagon i.gy.pl hyy with er | ⟨w, t, ht, er, hwr, hwn, hfree⟩
    · rw [er, if_pos rfl, if_pos rfl, if_pos rfl]
      exact i.good rfl rfl sV_eq f00 Fr.rf
    · rw [er, if_neg (show ¬ nI w = -1 from nI_nM (by omega)), if_neg (show ¬ nI w = -1 from nI_nM (by omega)), cv, bR_s, bR_s, chk_in (by omega) (by decide), e, if_pos rfl]
      -- the class's new booking
      have to : tyf_L_open σ (μ.1 9 j) (nI y) (nI g) = some (nI m, sW (sW (sW (sW (sV σ 5 (nI (m + 1))) 13 (nI m) (μ.1 9 j)) 14 (nI m) (nI y)) 15 (nI m) (nI g)) 16 (nI m) 0) := by
        unfold tyf_L_open
        rw [stp_e, i.gb.sm, chk_in (by omega) (by decide), stp_e, chk_in (by omega) (by decide), stp_e, chk_in (by omega) (by decide), stp_e, chk_in (by omega) (by decide), stp_e, il1, nI_add]
      rw [to, bN_s]
      unfold tyf_B_setOpenBooking
      rw [chk_in (by omega) (by decide), stp_e, bR_s]
      generalize hσ1 : sW (sW (sW (sW (sW (sV σ 5 (nI (m + 1))) 13 (nI m) (μ.1 9 j)) 14 (nI m) (nI y)) 15 (nI m) (nI g)) 16 (nI m) 0) 23 (nI j) (nI m) = σ1
      have f1 : Fr [13, 14, 15, 16, 23] [5] σ σ1 := by rw [← hσ1]; exact (((((Fr.sV.tr Fr.sW).tr Fr.sW).tr Fr.sW).tr Fr.sW).tr Fr.sW).mono (by decide) (by decide)
      -- the reference's
      have e5 : (sV (sV μ 0 0) 0 0).2 5 = nI m := gb0.mm
      simp (disch := omega) only [stp_e, sW_v, sW_ne, sV_a, e5, chk_in, nI_clamp, ey]
      rw [il1, nI_add, if_neg (show ¬ nI w = -nI 1 from nI_nM (by omega))]
      generalize hμ1 : sV (sW (sW (sW (sW (sW (sW (sV (sV μ 0 0) 0 0) 13 (nI m) 0) 14 (nI m) (nI g)) 15 (nI m) (μ.1 9 j)) 16 (nI m) (nI y)) 18 (nI m) 0) 12 (nI j) (nI m)) 5 (nI (m + 1)) = μ1
      have g1 : Fr [13, 14, 15, 16, 18, 12] [0, 5] μ μ1 := by rw [← hμ1]; exact ((((((((f00.tr Fr.sW).tr Fr.sW).tr Fr.sW).tr Fr.sW).tr Fr.sW).tr Fr.sW)).tr Fr.sV).mono (by decide) (by decide)
      have u13 : μ1.1 13 = upd (μ.1 13) m 0 := by rw [← hμ1]; simp (disch := omega) only [sV_a, sW_ne, sW_eq]
      have u14 : μ1.1 14 = upd (μ.1 14) m (nI g) := by rw [← hμ1]; simp (disch := omega) only [sV_a, sW_ne, sW_eq]
      have u15 : μ1.1 15 = upd (μ.1 15) m (μ.1 9 j) := by rw [← hμ1]; simp (disch := omega) only [sV_a, sW_ne, sW_eq]
      have u16 : μ1.1 16 = upd (μ.1 16) m (nI y) := by rw [← hμ1]; simp (disch := omega) only [sV_a, sW_ne, sW_eq]
      have u18 : μ1.1 18 = μ.1 18 := by
        rw [← hμ1]; simp (disch := omega) only [sV_a, sW_ne, sW_eq]
        exact upd_id (i.gb.blN m (Nat.le_refl _) hm)
      have u12 : μ1.1 12 = upd (μ.1 12) j (nI m) := by rw [← hμ1]; simp (disch := omega) only [sV_a, sW_ne, sW_eq]
      have w13 : σ1.1 13 = upd (σ.1 13) m (μ.1 9 j) := by rw [← hσ1]; simp (disch := omega) only [sV_a, sW_ne, sW_eq]
      have w14 : σ1.1 14 = upd (σ.1 14) m (nI y) := by rw [← hσ1]; simp (disch := omega) only [sV_a, sW_ne, sW_eq]
      have w15 : σ1.1 15 = upd (σ.1 15) m (nI g) := by rw [← hσ1]; simp (disch := omega) only [sV_a, sW_ne, sW_eq]
      have w16 : σ1.1 16 = upd (σ.1 16) m 0 := by rw [← hσ1]; simp (disch := omega) only [sV_a, sW_ne, sW_eq]
      have w23 : σ1.1 23 = upd (σ.1 23) j (nI m) := by rw [← hσ1]; simp (disch := omega) only [sV_a, sW_ne, sW_eq]
      have w5 : σ1.2 5 = nI (m + 1) := by rw [← hσ1]; rw [sW_v, sW_v, sW_v, sW_v, sW_v, sV_eq]
      have u5 : μ1.2 5 = nI (m + 1) := by rw [← hμ1, sV_eq]
      have u0 : μ1.2 0 = nI 0 := by rw [← hμ1, sV_ne (by decide), sW_v, sW_v, sW_v, sW_v, sW_v, sW_v, sV_eq]; rfl
      have gb1 : Gb σ1 μ1 (setL B m []) n (m + 1) := i.gb.opn hm hg f1 g1 w5 u5 w13 w14 w15 w16 u13 u14 u15 u16 u18
      have gk1 : Gk σ1 μ1 (m + 1) c := i.gk.opn m40 hj f1 g1 w23 u12 u13 u15
      have gt1 : Gt μ1 L T (m + 1) := i.gt.opn g1 u13
      have hl0 : (setL B m [] m).length = 0 := by rw [setL_eq]; rfl
      have hact : ¬ 4 ≤ μ1.1 13 m := by rw [u13, upd_eq]; decide
      have hfree1 : σ1.1 20 w = nM := by rw [f1.a 20]; exact hfree
      obtain ⟨τ, q1, q2, q3, q4, q5⟩ := T_add_v gb1 (b := m) (w := w) (by omega) (by omega) (by omega)
      obtain ⟨υ, o1, o2, o3, o4, o5⟩ := M_adds_v gb1 (b := m) (w := w) (by omega) (by omega) (by omega)
      have o12 : μ1.1 12 j = nI m := by rw [u12, upd_eq]
      rw [q1, bR_s, sW_eq (show j < 2 ^ 31 by omega), upd_eq, o1, bR_s]
      have fσ : Fr [13, 14, 15, 16, 23, 18, 19, 20] [5] σ τ := (f1.tr q2).mono (by decide) (by decide)
      have fμ : Fr [13, 14, 15, 16, 18, 12, 19, 3] [0, 5] μ υ := (g1.tr o2).mono (by decide) (by decide)
      exact ⟨_, _, _, rfl, rfl, ⟨0, rfl, by rw [o2.v 0, u0], fun _ => rfl⟩, L, _, n, T, hh, m + 1, c, by have := i.hk; omega, i.gy.fr fσ fμ, i.gc.fr fσ fμ, gb1.add n30 (by omega) hact hwn hfree1 q2 o2 q3 q4 q5 o3 o4 o5, gk1.fr q2 o2, gt1.bk i.gy.pl (by omega) hwr o2 o5, i.gs.fr fσ fμ⟩
  · obtain ⟨g9, hg9, eg9⟩ := i.gb.gr b hb
    obtain ⟨st0, -⟩ := i.gk.opo j hj h1 b hb e
    have gv : tyf_L_grain σ (nI b) = some (nI g9) := by
      unfold tyf_L_grain
      rw [chk_in (by omega) (by decide), nI_clamp (by omega), i.gb.e15, eg9]
    have hbM : ¬ nI b = -1 := nI_nM (by omega)
    rw [e, if_neg hbM, if_neg hbM, if_neg hbM, gv, bR_s, chk_in (by omega) (by decide), chk_in (by omega) (by decide), nI_clamp (n := b) (by omega), eg9]
    by_cases hgg : nI g9 = nI g
    rotate_left
    · rw [if_neg hgg, if_neg hgg, stp_e]
      exact i.bad (kk := 3) rfl rfl sV_eq ((Fr.sV.tr Fr.sV).mono (by decide) (by decide)) Fr.rf
    rw [if_pos hgg, if_pos hgg, stp_e, chk_in (by omega) (by decide), sV_a, sV_a, ey, t2, bR_s]
    rcases b1.wagon i.gy.pl hyy with er | ⟨w, t, ht, er, hwr, hwn, hfree⟩
    · rw [er, if_pos rfl, if_pos rfl, if_pos rfl]
      exact i.good rfl rfl sV_eq f00 Fr.rf
    · have hact : ¬ 4 ≤ μ.1 13 b := by rw [st0]; decide
      have hroom := i.gb.room n30 hb hact hwn hfree
      obtain ⟨τ, q1, q2, q3, q4, q5⟩ := T_add_v i.gb (b := b) (w := w) hb (by omega) hroom
      obtain ⟨υ, o1, o2, o3, o4, o5⟩ := M_adds_v gb0 (b := b) (w := w) hb (by omega) hroom
      have hwM : ¬ nI w = -1 := nI_nM (by omega)
      rw [er, if_neg hwM, if_neg hwM, q1, bR_s, chk_in (by omega) (by decide), e, if_neg hbM, if_neg hwM, chk_in (by omega) (by decide), o1, bR_s]
      have fμ : Fr [18, 19, 3] [0] μ υ := (f00.tr o2).mono (by decide) (by decide)
      exact ⟨_, _, _, rfl, rfl, ⟨0, rfl, by rw [o2.v 0, sV_eq]; rfl, fun _ => rfl⟩, L, _, n, T, hh, m, c, by have := i.hk; omega, i.gy.fr q2 fμ, i.gc.fr q2 fμ, i.gb.add n30 hb hact hwn hfree q2 fμ q3 q4 q5 o3 o4 o5, i.gk.fr q2 fμ, i.gt.bk i.gy.pl (by omega) hwr fμ o5, i.gs.fr q2 fμ⟩
