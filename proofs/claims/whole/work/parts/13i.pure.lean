/-! ===== the pure part: wagon, shunt, wash, follow ===== -/
theorem M_wagon_v {μ : tyS} {L : Nat → List Nat} {n y t : Nat} (h : Rows (μ.1 4) (μ.1 5) 15 L) (mn : μ.2 2 = nI n) (hn : n < 30) (hy : y < 3) (ht : t < 5) (hl : (L (5 * y + t)).length < 6) : ∃ μ', tyf_M_wagon μ (nI y) (nI t) = some (nI n, μ') ∧ Fr [1, 2, 3, 4, 5] [0, 2] μ μ' ∧ μ'.2 0 = nI 0 ∧ μ'.2 2 = nI (n + 1) ∧ μ'.1 2 = upd (μ.1 2) n nM ∧ μ'.1 3 = upd (μ.1 3) n nM ∧ Rows (μ'.1 4) (μ'.1 5) 15 (setL L (5 * y + t) (L (5 * y + t) ++ [n])) ∧ μ'.1 1 = upd (μ.1 1) n (nI (pcode (5 * y + t))) := by
  have hr : 5 * y + t < 15 := by omega
  obtain ⟨τ, g1, g2, g3, g4, -⟩ := puts_v (μ := sW (sW (sV μ 0 0) 2 (nI n) nM) 3 (nI n) nM) (L := L) (w := n) (by rw [sW_ne (by decide), sW_ne (by decide), sW_ne (by decide), sW_ne (by decide)]; exact h) hy ht hn hl
  have f1 : Fr [2, 3] [0] μ (sW (sW (sV μ 0 0) 2 (nI n) nM) 3 (nI n) nM) := ((Fr.sV.tr Fr.sW).tr Fr.sW).mono (by decide) (by decide)
  have e2 : τ.2 2 = nI n := by rw [g2.v 2, f1.v 2, mn]
  refine ⟨sV τ 2 (nI (n + 1)), ?_, ((f1.tr g2).tr Fr.sV).mono (by decide) (by decide), ?_, sV_eq, ?_, ?_, g3, ?_⟩
  · unfold tyf_M_wagon
    rw [M_isTrack_t hy ht, bR_s, if_neg (by decide), mn, if_neg (fun e => by
      have := (nI_eq (a := n) (b := 30) (by omega) (by omega)).mp e
      omega), il5, nI_mul, nI_add, chk_in hr (by decide), nI_clamp (by omega), h.c hr, if_neg (fun e => by
      have := (nI_eq (a := (L (5 * y + t)).length) (b := 6) (by omega) (by omega)).mp e
      omega), stp_e, sV_ne (by decide), mn, chk_in hn (by decide), stp_e, sW_v, sV_ne (by decide), mn, chk_in hn (by decide), stp_e, sW_v, sW_v, sV_ne (by decide), mn, g1, bR_s, e2, il1, nI_add, stp_e, sV_eq, nI_sub (by omega), Nat.add_sub_cancel]
  · rw [sV_ne (by decide), g2.v 0, sW_v, sW_v, sV_eq]; rfl
  · rw [sV_a, g2.a 2, sW_ne (by decide), sW_eq (by omega), sV_a]
  · rw [sV_a, g2.a 3, sW_eq (by omega), sW_ne (by decide), sV_a]
  · rw [sV_a, g4, sW_ne (by decide), sW_ne (by decide), sV_a]
theorem op_wagon {k : Nat} {σ μ : tyS} (h : Inv k σ μ) (hk : k < 512) (p1 p2 : Int32) : ∃ res v μ', tyf_T_wagon σ p1 p2 = some res ∧ tyf_M_wagon μ p1 p2 = some (v, μ') ∧ Ag [1, 2] res v μ' ∧ Inv (k + 1) res.2.2 μ' := by
  obtain ⟨L, B, n, T, hh, m, c, i⟩ := h
  have n30 := i.gy.n30
  have T40 := i.gy.T40
  by_cases hp : isIx 3 p1 ∧ isIx 5 p2
  · obtain ⟨⟨y, hy, rfl⟩, ⟨t, ht, rfl⟩⟩ := hp
    have hr : 5 * y + t < 15 := by omega
    have hl6 := i.gy.mr.len hr
    by_cases hn : n < 30
    · by_cases hl : (L (5 * y + t)).length < 6
      · obtain ⟨μ', m1, m2, m3, m4, m5, m6, m7, m8⟩ := M_wagon_v i.gy.mr i.gy.mn hn hy ht hl
        have fs : Fr [] [0] σ (sV σ 0 (nI (n + 1))) := Fr.sV
        obtain ⟨τ, t1, t2, t3⟩ := place_v (σ := sV σ 0 (nI (n + 1))) (L := L) (h := hh) (r := 5 * y + t) (w := n) ⟨i.gy.yd.rows, by rw [fs.v 4]; exact i.gy.yd.hs, i.gy.yd.his⟩ (by have := i.hk; omega) (by omega) hl
        have tt : tyf_T_wagon σ (nI y) (nI t) = some (0, nI n, τ) := by
          have room := R1_hasRoom_v (x := 1) i.gy.yd.rows (r := 5 * y + t) (by omega) (by decide)
          rw [if_pos (by omega)] at room
          unfold tyf_T_wagon
          rw [T_requireTrack_t hy ht, bX_r, T_rowOf_v, bR_s, i.gy.sn, il30, if_neg (nI_ge hn (by decide)), il1, room, bR_s, if_neg (by decide), nI_add, stp_e]
          revert t1
          generalize tyf_R1_put (sV σ 0 (nI (n + 1))) (nI (5 * y + t)) (nI n) = X
          intro t1
          cases X with
          | none => cases t1
          | some a =>
            rw [bR_s] at t1 ⊢
            revert t1
            generalize tyf_H_notePlacing a (nI (5 * y + t)) (nI n) = Y
            intro t1
            cases Y with
            | none => cases t1
            | some b =>
              rw [bR_s] at t1 ⊢
              cases t1
              rfl
        have f := fs.tr t2
        have ln : ∀ q w, q < 55 → w ∈ L q → w < n := fun q w hq hw => (i.gy.pl.1 q hq).2 w hw
        refine ⟨_, _, μ', tt, m1, ⟨0, rfl, m3, fun _ => rfl⟩, setL L (5 * y + t) (L (5 * y + t) ++ [n]), B, n + 1, T, hh + 1, m, c, ?_⟩
        have e20 := m2.a 20
        have e21 := m2.a 21
        refine ⟨?_, ?_, ?_, ?_, ?_, ?_, ?_⟩
        · have := i.hk; omega
        · refine ⟨?_, ?_, ?_, ?_, ?_, ?_, ?_, ?_, ?_, ?_, ?_, ?_, ?_, ?_, ?_⟩
          · exact t3
          · exact i.gy.pl.put (by omega)
          · rw [m8]; exact i.gy.wh.put i.gy.pl hr
          · exact m7
          · omega
          · rw [t2.v 0, sV_eq]
          · exact m4
          · exact T40
          · rw [f.v 1]; exact i.gy.sT
          · rw [m2.v 6]; exact i.gy.mT
          · rw [f.a 31, e20]; exact i.gy.dE
          · rw [e20]; exact i.gy.dst
          · intro q hq hq5
            rw [setL_ne (by omega)]
            exact i.gy.un q hq hq5
          · intro u hu
            rw [setL_ne (by omega), e21, m2.a 22, m2.a 23]
            exact i.gy.arr u hu
          · rw [e21]; exact i.gy.arN
        · refine ⟨?_, ?_, ?_⟩
          · intro w hw
            rw [f.a 29, m5]
            by_cases hwn : w = n
            · subst hwn
              rw [upd_eq]
              exact ⟨i.gc.carN w (Nat.le_refl _) (by omega), Or.inl rfl⟩
            · rw [upd_ne hwn]
              exact i.gc.car w (by omega)
          · rw [f.a 29]
            exact fun w hw hw3 => i.gc.carN w (by omega) hw3
          · rw [f.a 30, m2.a 6]; exact i.gc.fol
        · refine ⟨?_, ?_, ?_, ?_, ?_, ?_, ?_, ?_, ?_, ?_, ?_, ?_, ?_, ?_, ?_, ?_⟩
          · rw [f.v 5]; exact i.gb.sm
          · rw [m2.v 5]; exact i.gb.mm
          · exact i.gb.m40
          · rw [f.a 13, m2.a 15]; exact i.gb.e13
          · rw [f.a 14, m2.a 16]; exact i.gb.e14
          · rw [f.a 15, m2.a 14]; exact i.gb.e15
          · rw [f.a 16, m2.a 13]; exact i.gb.e16
          · rw [f.a 17, m2.a 17]; exact i.gb.e17
          · rw [f.a 18, m2.a 18]; exact i.gb.e18
          · rw [f.a 19, m2.a 19]; exact i.gb.e19
          · rw [m2.a 14]; exact i.gb.gr
          · rw [m2.a 18, m2.a 19]
            intro b hb
            obtain ⟨a1, a2, a3, a4, a5⟩ := i.gb.bl b hb
            exact ⟨a1, a2, a3, a4, fun w hw => Nat.lt_succ_of_lt (a5 w hw)⟩
          · rw [m2.a 18]; exact i.gb.blN
          · intro w hw
            rw [f.a 20, m6, m2.a 13]
            by_cases hwn : w = n
            · subst hwn
              rw [upd_eq]
              exact Or.inl ⟨rfl, i.gb.bkN w (Nat.le_refl _) (by omega)⟩
            · rw [upd_ne hwn]
              exact i.gb.bk w (by omega)
          · rw [m2.a 13, m6]
            intro b hb hs w hw
            have := (i.gb.bl b hb).2.2.2.2 w hw
            rw [upd_ne (by omega)]
            exact i.gb.act b hb hs w hw
          · rw [f.a 20]
            exact fun w hw hw3 => i.gb.bkN w (by omega) hw3
        · exact i.gk.fr f m2
        · constructor
          · intro q hq hq5 w hw
            rw [setL_ne (by omega)] at hw
            have := ln q w hq5 hw
            rw [m6, m2.a 13, upd_ne (by omega)]
            exact i.gt.trip q hq hq5 w hw
          · rw [m2.a 13]; exact i.gt.cnt
        · exact i.gs.fr f m2
      · have room := R1_hasRoom_v (x := 1) i.gy.yd.rows (r := 5 * y + t) (by omega) (by decide)
        rw [if_neg (by omega)] at room
        refine i.bad (kk := 2) (v := 0) (cc := 2) (σ' := σ) (μ' := sV μ 0 2) ?_ ?_ sV_eq Fr.sV Fr.rf
        · unfold tyf_T_wagon
          rw [T_requireTrack_t hy ht, bX_r, T_rowOf_v, bR_s, i.gy.sn, il30, if_neg (nI_ge hn (by decide)), il1, room, bR_s, if_pos rfl]
        · unfold tyf_M_wagon
          rw [M_isTrack_t hy ht, bR_s, if_neg (by decide), i.gy.mn, if_neg (fun e => by
            have := (nI_eq (a := n) (b := 30) (by omega) (by omega)).mp e
            omega), il5, nI_mul, nI_add, chk_in hr (by decide), nI_clamp (by omega), i.gy.mr.c hr, if_pos (by
            rw [show (L (5 * y + t)).length = 6 from by omega]; rfl), stp_e]
    · have hn : n = 30 := by omega
      refine i.bad (kk := 2) (v := 0) (cc := 2) (σ' := σ) (μ' := sV μ 0 2) ?_ ?_ sV_eq Fr.sV Fr.rf
      · unfold tyf_T_wagon
        rw [T_requireTrack_t hy ht, bX_r, T_rowOf_v, bR_s, i.gy.sn, hn, if_pos (by decide)]
      · unfold tyf_M_wagon
        rw [M_isTrack_t hy ht, bR_s, if_neg (by decide), i.gy.mn, hn, if_pos (by decide), stp_e]
  · refine i.bad (kk := 1) (v := 0) (cc := 1) (σ' := σ) (μ' := sV μ 0 1) ?_ ?_ sV_eq Fr.sV Fr.rf
    · unfold tyf_T_wagon
      rw [T_requireTrack_f hp, bX_1]
    · unfold tyf_M_wagon
      rw [M_isTrack_f hp, bR_s, if_pos rfl, stp_e]
