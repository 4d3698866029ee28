/-! ===== the pure part: hangUp, cut ===== -/
theorem upd0_go {f : Nat → Int32} {j q : Nat} (h : upd f j 0 q = nI 1) : q ≠ j ∧ f q = nI 1 := by
  by_cases hij : q = j
  · rw [hij, upd_eq] at h; exact absurd h (by decide)
  · rw [upd_ne hij] at h; exact ⟨hij, h⟩
theorem op_hangUp {k : Nat} {σ μ : tyS} (h : Inv k σ μ) (hk : k < 512) (p1 : Int32) : ∃ res v μ', tyf_T_hangUp σ p1 = some res ∧ tyf_M_hangUp μ p1 = some (v, μ') ∧ Ag [3, 2] res v μ' ∧ Inv (k + 1) res.2.2 μ' := by
  obtain ⟨L, B, n, T, hh, m, c, i⟩ := h
  have c60 := i.gk.c60
  have m40 := i.gb.m40
  unfold tyf_T_hangUp tyf_M_hangUp tyf_B_openBooking tyf_L_size
  by_cases hx : isIx c p1
  rotate_left
  · rw [T_requireCall_f i.gk.sc (by omega) hx, bX_3, M_isCall_f i.gk.mc (by omega) hx, bR_s, if_pos rfl, stp_e]
    exact i.bad (kk := 1) rfl rfl sV_eq Fr.sV Fr.rf
  obtain ⟨j, hj, rfl⟩ := hx
  rw [T_requireCall_t i.gk.sc (by omega) hj, bX_r, M_isCall_t i.gk.mc (by omega) hj, bR_s, if_neg (show ¬ (1 : Int32) = 0 by decide)]
  rcases i.gk.go j hj with h0 | h1
  · rw [T_requireOngoing_f i.gk hj h0, bX_2, chk_in (by omega) (by decide), nI_clamp (n := j) (by omega), h0, if_pos nI_0, stp_e]
    exact i.bad (kk := 2) rfl rfl sV_eq Fr.sV Fr.rf
  obtain ⟨q, τ, hq, eq, t1, t2, t3, t4⟩ := T_end_v i.gk hj h1
  obtain ⟨υ, u1, u2, u3, u4⟩ := M_ends_v (μ := sV μ 0 0) (j := j) (by omega)
  rw [T_requireOngoing_t i.gk hj h1, bX_r, chk_in (by omega) (by decide), bR_s, t1, bR_s, chk_in (by omega) (by decide), nI_clamp (n := j) (by omega), h1, if_neg (show ¬ nI 1 = 0 by decide), stp_e, u1, bR_s, chk_in (by omega) (by decide), u2.a 12, sV_a, i.gk.e23]
  have f2 : Fr [7, 11] [0] μ υ := (Fr.sV.tr u2).mono (by decide) (by decide)
  have gk1 : Gk τ υ m c := i.gk.endd hj h1 hq eq t2 f2 t3 t4 (by rw [u3, sV_a]) (by rw [u4, sV_a])
  have gb1 : Gb τ υ B n m := i.gb.fr t2 f2
  have e0 : υ.2 0 = nI 0 := by rw [u2.v 0, sV_eq]; rfl
  rcases i.gk.op j hj with e | ⟨b, hb, e⟩
  · rw [e, if_pos rfl, if_pos rfl]
    exact ⟨_, _, _, rfl, rfl, ⟨0, rfl, e0, fun _ => rfl⟩, L, B, n, T, hh, m, c, by have := i.hk; omega, i.gy.fr t2 f2, i.gc.fr t2 f2, gb1, gk1, i.gt.fr f2, i.gs.fr t2 f2⟩
  obtain ⟨st0, -⟩ := i.gk.opo j hj h1 b hb e
  have e13' : υ.1 13 = μ.1 13 := f2.a 13
  obtain ⟨ω, r1, r2, r3, r4⟩ := release_v (x := 5) gb1 hb i.gy.n30
  rw [e, if_neg (nI_nM (by omega)), if_neg (nI_nM (by omega)), r1, bR_s, chk_in (by omega) (by decide), bR_s, chk_in (by omega) (by decide), stp_e, chk_in (by omega) (by decide), nI_clamp (by omega)]
  have f : Fr [26, 27, 16, 20] [] σ ω := (t2.tr r2).mono (by decide) (by decide)
  have f3 : Fr [7, 11, 13] [0] μ (sW υ 13 (nI b) 5) := (f2.tr Fr.sW).mono (by decide) (by decide)
  have f4 : Fr [13] [] υ (sW υ 13 (nI b) 5) := Fr.sW
  have e13 : (sW υ 13 (nI b) 5).1 13 = upd (υ.1 13) b 5 := by rw [sW_eq (by omega)]
  rw [f.a 18, f3.a 18, i.gb.e18]
  refine ⟨_, _, _, rfl, rfl, ⟨0, rfl, by rw [sW_v, e0], fun _ => rfl⟩, L, B, n, T, hh, m, c, by have := i.hk; omega, i.gy.fr f f3, i.gc.fr f f3, ?_, ?_, ?_, i.gs.fr f f3⟩
  · exact gb1.rel r2 f4 hb e13 (by rw [r3, e13, gb1.e16]) (by rw [r2.a 17, f4.a 17]; exact gb1.e17) r4 (by rw [e13', st0]; decide) (by decide)
  · refine gk1.st r2 f4 (by rw [r2.a 23, f4.a 12]; exact gk1.e23) (fun q hq => by rw [f4.a 12]; exact gk1.op q hq) (fun q hq gq b' hb' ob => ?_)
    rw [f4.a 12] at ob
    have h9 := gk1.opo q hq gq b' hb' ob
    rw [u4, sV_a] at gq
    obtain ⟨hqj, gq⟩ := upd0_go gq
    have hbb : b' ≠ b := by
      rintro rfl
      rw [f2.a 12] at ob
      exact hqj (i.gk.uniq hq hj gq h1 hb ob e)
    rw [e13, upd_ne hbb]
    exact h9
  · exact i.gt.st f3 (fun b' _ h => by rw [e13, e13']; exact upd34 (by rw [st0]; decide) (by rw [st0]; decide) b' h)
/-- a trunk that no call has, cut or mended -/
theorem Gk.slot {σ μ σ' μ' : tyS} {m c s : Nat} {v : Int32} {as vs bs us : List Nat} (g : Gk σ μ m c) (f : Fr as vs σ σ') (f2 : Fr bs us μ μ') (hs : s < 6) (ho : μ.1 7 s = nM ∨ μ.1 7 s = nN) (hv : v = nM ∨ v = nN) (e27 : σ'.1 27 = upd (σ.1 27) s v) (e7 : μ'.1 7 = upd (μ.1 7) s v) (d1 : dis as [21, 22, 23, 24, 25, 26, 28] = true := by decide) (d2 : dis vs [6] = true := by decide) (d3 : dis bs [8, 9, 10, 11, 12, 13, 15] = true := by decide) (d4 : dis us [3] = true := by decide) : Gk σ' μ' m c := by
  have c60 := g.c60
  refine ⟨?_, ?_, ?_, ?_, ?_, ?_, ?_, ?_, ?_, ?_, ?_, ?_, ?_, ?_, ?_, ?_, ?_⟩
  · rw [f.vd d2 (a := 6) (by decide)]; exact g.sc
  · rw [f2.vd d4 (a := 3) (by decide)]; exact g.mc
  · exact g.c60
  · rw [f.ad d1 (a := 21) (by decide), f2.ad d3 (a := 9) (by decide)]; exact g.e21
  · rw [f.ad d1 (a := 22) (by decide), f2.ad d3 (a := 10) (by decide)]; exact g.e22
  · rw [f.ad d1 (a := 23) (by decide), f2.ad d3 (a := 12) (by decide)]; exact g.e23
  · rw [e27, e7, g.e27]
  · rw [f.ad d1 (a := 28) (by decide), f2.ad d3 (a := 8) (by decide)]; exact g.e28
  · rw [f2.ad d3 (a := 9) (by decide)]; exact g.cu
  · rw [f2.ad d3 (a := 10) (by decide)]; exact g.ya
  · rw [f2.ad d3 (a := 12) (by decide)]; exact g.op
  · rw [f2.ad d3 (a := 11) (by decide), f2.ad d3 (a := 12) (by decide), f2.ad d3 (a := 13) (by decide), f2.ad d3 (a := 15) (by decide), f2.ad d3 (a := 9) (by decide)]; exact g.opo
  · rw [f2.ad d3 (a := 11) (by decide)]; exact g.go
  · rw [f.ad d1 (a := 26) (by decide), f2.ad d3 (a := 9) (by decide), f2.ad d3 (a := 11) (by decide)]; exact g.on1
  · rw [f.ad d1 (a := 26) (by decide), f2.ad d3 (a := 9) (by decide), f2.ad d3 (a := 11) (by decide)]; exact g.on2
  · rw [e7, f2.ad d3 (a := 11) (by decide)]
    intro s' hs'
    by_cases hss : s' = s
    · rw [hss, upd_eq]
      rcases hv with hv | hv
      · exact Or.inl hv
      · exact Or.inr (Or.inl hv)
    · rw [upd_ne hss]; exact g.tr1 s' hs'
  · rw [f.ad d1 (a := 24) (by decide), f.ad d1 (a := 25) (by decide), e7, f2.ad d3 (a := 11) (by decide)]
    intro j hj h1
    obtain ⟨q1, q2, q3, q4⟩ := g.tr2 j hj h1
    refine ⟨q1, q2, q3, fun s' hs' => ?_⟩
    by_cases hss : s' = s
    · subst hss
      rw [upd_eq, ← q4 s' hs']
      have n1 : ∀ w : Int32, (w = nM ∨ w = nN) → w ≠ nI j := by
        rintro w (rfl | rfl)
        · exact nM_nI (by omega)
        · exact fun e => nN_ne (by omega) e.symm
      exact ⟨fun e => absurd e (n1 v hv), fun e => absurd e (n1 _ ho)⟩
    · rw [upd_ne hss]; exact q4 s' hs'
theorem op_cut {k : Nat} {σ μ : tyS} (h : Inv k σ μ) (hk : k < 512) (p1 p2 p3 : Int32) : ∃ res v μ', tyf_T_cut σ p1 p2 p3 = some res ∧ tyf_M_cut μ p1 p2 p3 = some (v, μ') ∧ Ag [1, 2] res v μ' ∧ Inv (k + 1) res.2.2 μ' := by
  obtain ⟨L, B, n, T, hh, m, c, i⟩ := h
  have c60 := i.gk.c60
  have m40 := i.gb.m40
  unfold tyf_T_cut tyf_M_cut tyf_B_trunkHas tyf_B_setTrunk
  by_cases hx : isIx 3 p1 ∧ isIx 3 p2 ∧ p1 ≠ p2 ∧ isIx 2 p3
  rotate_left
  · rw [T_requireTrunk_f hx, bX_1, M_isTrunk_f hx, bR_s, if_pos rfl, stp_e]
    exact i.bad (kk := 1) rfl rfl sV_eq Fr.sV Fr.rf
  obtain ⟨⟨a, ha, rfl⟩, ⟨b, hb, rfl⟩, hab, ⟨x, hx, rfl⟩⟩ := hx
  have hab : a ≠ b := fun e => hab (by rw [e])
  have hs6 : 2 * (a + b - 1) + x < 6 := by omega
  have bt : ∀ μ : tyS, tyf_M_between μ (nI a) (nI b) = some (nI (2 * (a + b - 1))) := fun μ => between_v ha hb hab
  rw [T_requireTrunk_t ha hb hx hab, bX_r, slotOf_v ha hb hab, bR_s, chk_in hs6 (by decide), nI_clamp (by omega), bR_s, i.gk.e27, M_isTrunk_t ha hb hx hab, bR_s, if_neg (show ¬ (1 : Int32) = 0 by decide)]
  simp only [bt, bR_s, nI_add]
  generalize hse : 2 * (a + b - 1) + x = s at hs6 ⊢
  rw [chk_in hs6 (by decide), chk_in hs6 (by decide), nI_clamp (n := s) (by omega), stp_e]
  by_cases ht : μ.1 7 s = -2
  · rw [if_pos ht, if_pos ht, stp_e]
    exact i.bad (kk := 2) rfl rfl sV_eq Fr.sV Fr.rf
  rw [if_neg ht, if_neg ht, stp_e, chk_in hs6 (by decide), sV_a]
  by_cases ht1 : μ.1 7 s = -1
  · rw [if_pos ht1, if_pos ht1, bR_s, chk_in hs6 (by decide), stp_e]
    have f : Fr [27] [] σ (sW σ 27 (nI s) (-2)) := Fr.sW
    have f2 : Fr [7] [0] μ (sW (sV μ 0 0) 7 (nI s) (-2)) := (Fr.sV.tr Fr.sW).mono (by decide) (by decide)
    refine ⟨_, _, _, rfl, rfl, ⟨0, rfl, by rw [sW_v, sV_eq]; rfl, fun _ => rfl⟩, L, B, n, T, hh, m, c, by have := i.hk; omega, i.gy.fr f f2, i.gc.fr f f2, i.gb.fr f f2, ?_, i.gt.fr f2, i.gs.fr f f2⟩
    exact i.gk.slot f f2 hs6 (Or.inl ht1) (Or.inr rfl) (by rw [sW_eq (by omega)]) (by rw [sW_eq (by omega), sV_a])
  rw [if_neg ht1, if_neg ht1]
  rcases i.gk.tr1 s hs6 with e | e | ⟨j, hj, ej, h1⟩
  · exact absurd e ht1
  · exact absurd e ht
  obtain ⟨q, τ, hq, eq, t1, t2, t3, t4⟩ := T_end_v i.gk hj h1
  obtain ⟨υ, u1, u2, u3, u4⟩ := M_ends_v (μ := sV μ 0 0) (j := j) (by omega)
  have f2 : Fr [7, 11] [0] μ υ := (Fr.sV.tr u2).mono (by decide) (by decide)
  have gk1 : Gk τ υ m c := i.gk.endd hj h1 hq eq t2 f2 t3 t4 (by rw [u3, sV_a]) (by rw [u4, sV_a])
  have gb1 : Gb τ υ B n m := i.gb.fr t2 f2
  have e0 : υ.2 0 = nI 0 := by rw [u2.v 0, sV_eq]; rfl
  have es : υ.1 7 s = nM := by rw [u3, sV_a]; unfold clr; rw [if_pos ⟨hs6, ej⟩]
  unfold tyf_T_cutOff tyf_B_openBooking tyf_L_halve
  rw [ej, chk_in (by omega) (by decide), bR_s, t1, bR_s, u1, bR_s, nI_clamp (n := j) (by omega), chk_in (by omega) (by decide), u2.a 12, sV_a, i.gk.e23]
  rcases i.gk.op j hj with e | ⟨bb, hbb, e⟩
  · rw [e, if_pos rfl, if_pos rfl, bR_s, chk_in hs6 (by decide), stp_e, bR_s, chk_in hs6 (by decide), stp_e]
    have f : Fr [26, 27] [] σ (sW τ 27 (nI s) (-2)) := (t2.tr Fr.sW).mono (by decide) (by decide)
    have f3 : Fr [7, 11] [0] μ (sW υ 7 (nI s) (-2)) := (f2.tr Fr.sW).mono (by decide) (by decide)
    have fs : Fr [27] [] τ (sW τ 27 (nI s) (-2)) := Fr.sW
    have fs2 : Fr [7] [] υ (sW υ 7 (nI s) (-2)) := Fr.sW
    refine ⟨_, _, _, rfl, rfl, ⟨0, rfl, by rw [sW_v, e0], fun _ => rfl⟩, L, B, n, T, hh, m, c, by have := i.hk; omega, i.gy.fr f f3, i.gc.fr f f3, i.gb.fr f f3, ?_, i.gt.fr f3, i.gs.fr f f3⟩
    exact gk1.slot fs fs2 hs6 (Or.inl es) (Or.inr rfl) (by rw [sW_eq (by omega)]) (by rw [sW_eq (by omega)])
  obtain ⟨st0, -⟩ := i.gk.opo j hj h1 bb hbb e
  have e13' : υ.1 13 = μ.1 13 := f2.a 13
  rw [e, if_neg (nI_nM (by omega)), if_neg (nI_nM (by omega)), chk_in (by omega) (by decide), stp_e, chk_in (by omega) (by decide), stp_e, bR_s, bR_s, chk_in hs6 (by decide), stp_e, bR_s]
  rw [chk_in (by omega) (by decide), chk_in (by omega) (by decide), stp_e, sW_ne (by decide), u2.a 12, sV_a, e, chk_in (by omega) (by decide), chk_in (by omega) (by decide), stp_e, chk_in hs6 (by decide), stp_e]
  have enow : τ.2 3 = υ.2 1 := by rw [t2.v 3, u2.v 1, sV_ne (by decide), i.gs.now]
  have g1 : Fr [16, 17] [] τ (sW (sW τ 16 (nI bb) 1) 17 (nI bb) (τ.2 3 + 10)) := (Fr.sW.tr Fr.sW).mono (by decide) (by decide)
  have g2 : Fr [13, 17] [] υ (sW (sW υ 13 (nI bb) 1) 17 (nI bb) ((sW υ 13 (nI bb) 1).2 1 + 10)) := (Fr.sW.tr Fr.sW).mono (by decide) (by decide)
  have e13 : (sW (sW υ 13 (nI bb) 1) 17 (nI bb) ((sW υ 13 (nI bb) 1).2 1 + 10)).1 13 = upd (υ.1 13) bb 1 := by rw [sW_ne (by decide), sW_eq (by omega)]
  have gb2 : Gb (sW (sW τ 16 (nI bb) 1) 17 (nI bb) (τ.2 3 + 10)) (sW (sW υ 13 (nI bb) 1) 17 (nI bb) ((sW υ 13 (nI bb) 1).2 1 + 10)) B n m :=
    gb1.st g1 g2 e13 (by rw [e13, sW_ne (by decide), sW_eq (by omega), gb1.e16]) (by rw [sW_eq (by omega), sW_eq (by omega), sW_ne (by decide), sW_ne (by decide), gb1.e17, sW_v, enow]) (by rw [e13', st0]; decide) (by decide)
  have gk2 : Gk (sW (sW τ 16 (nI bb) 1) 17 (nI bb) (τ.2 3 + 10)) (sW (sW υ 13 (nI bb) 1) 17 (nI bb) ((sW υ 13 (nI bb) 1).2 1 + 10)) m c := by
    refine gk1.st g1 g2 (by rw [g1.a 23, g2.a 12]; exact gk1.e23) (fun q hq => by rw [g2.a 12]; exact gk1.op q hq) (fun q hq gq b' hb' ob => ?_)
    rw [g2.a 12] at ob
    have h9 := gk1.opo q hq gq b' hb' ob
    rw [u4, sV_a] at gq
    obtain ⟨hqj, gq⟩ := upd0_go gq
    have hbb2 : b' ≠ bb := by
      rintro rfl
      rw [f2.a 12] at ob
      exact hqj (i.gk.uniq hq hj gq h1 hbb ob e)
    rw [e13, upd_ne hbb2]
    exact h9
  have f : Fr [26, 27, 16, 17] [] σ (sW (sW (sW τ 16 (nI bb) 1) 17 (nI bb) (τ.2 3 + 10)) 27 (nI s) (-2)) := ((t2.tr g1).tr Fr.sW).mono (by decide) (by decide)
  have f3 : Fr [7, 11, 13, 17] [0] μ (sW (sW (sW υ 13 (nI bb) 1) 17 (nI bb) ((sW υ 13 (nI bb) 1).2 1 + 10)) 7 (nI s) (-2)) := ((f2.tr g2).tr Fr.sW).mono (by decide) (by decide)
  have fs : Fr [27] [] (sW (sW τ 16 (nI bb) 1) 17 (nI bb) (τ.2 3 + 10)) (sW (sW (sW τ 16 (nI bb) 1) 17 (nI bb) (τ.2 3 + 10)) 27 (nI s) (-2)) := Fr.sW
  have fs2 : Fr [7] [] (sW (sW υ 13 (nI bb) 1) 17 (nI bb) ((sW υ 13 (nI bb) 1).2 1 + 10)) (sW (sW (sW υ 13 (nI bb) 1) 17 (nI bb) ((sW υ 13 (nI bb) 1).2 1 + 10)) 7 (nI s) (-2)) := Fr.sW
  refine ⟨_, _, _, rfl, rfl, ⟨0, rfl, by rw [sW_v, sW_v, sW_v, e0], fun _ => rfl⟩, L, B, n, T, hh, m, c, by have := i.hk; omega, i.gy.fr f f3, i.gc.fr f f3, gb2.fr fs fs2, ?_, ?_, i.gs.fr f f3⟩
  · exact gk2.slot fs fs2 hs6 (Or.inl (by rw [g2.a 7]; exact es)) (Or.inr rfl) (by rw [sW_eq (by omega)]) (by rw [sW_eq (by omega)])
  · exact i.gt.st f3 (fun b' _ h => by rw [sW_ne (by decide), e13, e13']; exact upd34 (by rw [st0]; decide) (by rw [st0]; decide) b' h)
