/-! ===== the pure part: resume, cancel, hangUp ===== -/
theorem op_resume {k : Nat} {σ μ : tyS} (h : Inv k σ μ) (hk : k < 512) (p1 p2 : Int32) : ∃ res v μ', tyf_T_resume σ p1 p2 = some res ∧ tyf_M_resume μ p1 p2 = some (v, μ') ∧ Ag [3, 2] res v μ' ∧ Inv (k + 1) res.2.2 μ' := by
  obtain ⟨L, B, n, T, hh, m, c, i⟩ := h
  have c60 := i.gk.c60
  have m40 := i.gb.m40
  unfold tyf_T_resume tyf_M_resume tyf_B_openBooking tyf_L_keep tyf_B_setOpenBooking tyf_L_size
  by_cases hx : isIx c p1
  rotate_left
  · rw [T_requireCall_f i.gk.sc (by omega) hx, bX_3, M_isCall_f i.gk.mc (by omega) hx, bR_s, if_pos rfl, stp_e]
    exact i.bad (kk := 1) rfl rfl sV_eq Fr.sV Fr.rf
  obtain ⟨j, hj, rfl⟩ := hx
  rw [T_requireCall_t i.gk.sc (by omega) hj, bX_r, M_isCall_t i.gk.mc (by omega) hj, bR_s, if_neg (show ¬ (1 : Int32) = 0 by decide)]
  by_cases hy : isIx m p2
  rotate_left
  · rw [T_requireBooking_f i.gb.sm (by omega) hy, bX_3, M_isBooking_f i.gb.mm (by omega) hy, bR_s, if_pos rfl, stp_e]
    exact i.bad (kk := 1) rfl rfl sV_eq Fr.sV Fr.rf
  obtain ⟨b, hb, rfl⟩ := hy
  rw [T_requireBooking_t i.gb.sm (by omega) hb, bX_r, M_isBooking_t i.gb.mm (by omega) hb, bR_s, if_neg (show ¬ (1 : Int32) = 0 by decide), stp_e, chk_in (by omega) (by decide), chk_in (by omega) (by decide), sV_a, nI_clamp (n := j) (by omega)]
  have f0 : Fr [] [0] μ (sV (sV μ 0 0) 0 2) := (Fr.sV.tr Fr.sV).mono (by decide) (by decide)
  rcases i.gk.go j hj with h0 | h1
  · rw [T_requireOngoing_f i.gk hj h0, bX_2, h0, if_pos nI_0, stp_e]
    exact i.bad (kk := 2) rfl rfl sV_eq f0 Fr.rf
  rw [T_requireOngoing_t i.gk hj h1, bX_r, chk_in (by omega) (by decide), bR_s, h1, if_neg (show ¬ nI 1 = 0 by decide), i.gk.e23]
  by_cases e : μ.1 12 j = -1
  rotate_left
  · rw [if_neg e, if_neg e, stp_e]
    exact i.bad (kk := 2) rfl rfl sV_eq f0 Fr.rf
  have iw := isWithin_v (x := 1) i.gb i.gk hj hb
  have io := isOf_v (μ := sV μ 0 0) (j := j) (b := b) (by omega) (by omega)
  rw [sV_a] at io
  by_cases w1 : μ.1 13 b = 1
  rotate_left
  · rw [if_neg (fun e => w1 e.1)] at iw
    rw [if_pos e, if_pos e, iw, bR_s, if_pos rfl, chk_in (by omega) (by decide), nI_clamp (by omega), if_neg w1, stp_e]
    exact i.bad (kk := 2) rfl rfl sV_eq f0 Fr.rf
  by_cases w2 : μ.1 15 b = μ.1 9 j ∧ μ.1 16 b = μ.1 10 j
  rotate_left
  · rw [if_neg (fun e => w2 e.2)] at iw
    rw [if_neg w2] at io
    rw [if_pos e, if_pos e, iw, bR_s, if_pos rfl, chk_in (by omega) (by decide), nI_clamp (by omega), if_pos w1, io, bR_s, if_pos rfl, stp_e]
    exact i.bad (kk := 2) rfl rfl sV_eq f0 Fr.rf
  rw [if_pos ⟨w1, w2⟩] at iw
  rw [if_pos w2] at io
  rw [if_pos e, if_pos e, iw, bR_s, if_neg (show ¬ (1 : Int32) = 0 by decide), chk_in (by omega) (by decide), stp_e, bR_s, chk_in (by omega) (by decide), stp_e, bR_s, chk_in (by omega) (by decide), bR_s, chk_in (by omega) (by decide), nI_clamp (by omega), if_pos w1, io, bR_s, if_neg (show ¬ (1 : Int32) = 0 by decide), stp_e, chk_in (by omega) (by decide), stp_e, chk_in (by omega) (by decide), stp_e, chk_in (by omega) (by decide)]
  have f : Fr [16, 23] [] σ (sW (sW σ 16 (nI b) 0) 23 (nI j) (nI b)) := (Fr.sW.tr Fr.sW).mono (by decide) (by decide)
  have f2 : Fr [13, 12] [0] μ (sW (sW (sV (sV μ 0 0) 0 0) 13 (nI b) 0) 12 (nI j) (nI b)) := (((Fr.sV.tr Fr.sV).tr Fr.sW).tr Fr.sW).mono (by decide) (by decide)
  have e13 : (sW (sW (sV (sV μ 0 0) 0 0) 13 (nI b) 0) 12 (nI j) (nI b)).1 13 = upd (μ.1 13) b 0 := by rw [sW_ne (by decide), sW_eq (by omega), sV_a, sV_a]
  have e12 : (sW (sW (sV (sV μ 0 0) 0 0) 13 (nI b) 0) 12 (nI j) (nI b)).1 12 = upd (μ.1 12) j (nI b) := by rw [sW_eq (by omega), sW_ne (by decide), sV_a, sV_a]
  have e16 : (sW (sW σ 16 (nI b) 0) 23 (nI j) (nI b)).1 16 = upd (μ.1 13) b 0 := by rw [sW_ne (by decide), sW_eq (by omega), i.gb.e16]
  have e23 : (sW (sW σ 16 (nI b) 0) 23 (nI j) (nI b)).1 23 = upd (μ.1 12) j (nI b) := by rw [sW_eq (by omega), sW_ne (by decide), i.gk.e23]
  rw [f.a 18, f2.a 18, i.gb.e18]
  refine ⟨_, _, _, rfl, rfl, ⟨0, rfl, by rw [sW_v, sW_v, sV_eq]; rfl, fun _ => rfl⟩, L, B, n, T, hh, m, c, by have := i.hk; omega, i.gy.fr f f2, i.gc.fr f f2, ?_, ?_, ?_, i.gs.fr f f2⟩
  · exact i.gb.st f f2 e13 (by rw [e16, e13]) (by rw [f.a 17, f2.a 17]; exact i.gb.e17) (by rw [w1]; decide) (by decide)
  · refine i.gk.st f f2 (by rw [e23, e12]) (fun q hq => ?_) (fun q hq gq b' hb' ob => ?_)
    · rw [e12]
      by_cases hqj : q = j
      · rw [hqj, upd_eq]; exact Or.inr ⟨b, hb, rfl⟩
      · rw [upd_ne hqj]; exact i.gk.op q hq
    · rw [e12] at ob
      by_cases hqj : q = j
      · subst hqj
        rw [upd_eq] at ob
        have := (nI_eq (by omega) (by omega)).mp ob
        subst this
        rw [e13, upd_eq]
        exact ⟨rfl, w2.1⟩
      · rw [upd_ne hqj] at ob
        have h9 := i.gk.opo q hq gq b' hb' ob
        have hbb : b' ≠ b := by
          rintro rfl
          rw [w1] at h9
          exact absurd h9.1 (by decide)
        rw [e13, upd_ne hbb]
        exact h9
  · exact i.gt.st f2 (fun b' _ h => by rw [e13]; exact upd34 (by rw [w1]; decide) (by rw [w1]; decide) b' h)
theorem op_cancel {k : Nat} {σ μ : tyS} (h : Inv k σ μ) (hk : k < 512) (p1 p2 : Int32) : ∃ res v μ', tyf_T_cancel σ p1 p2 = some res ∧ tyf_M_cancel μ p1 p2 = some (v, μ') ∧ Ag [3, 2] res v μ' ∧ Inv (k + 1) res.2.2 μ' := by
  obtain ⟨L, B, n, T, hh, m, c, i⟩ := h
  have c60 := i.gk.c60
  have m40 := i.gb.m40
  unfold tyf_T_cancel tyf_M_cancel tyf_L_size
  by_cases hx : isIx c p1
  rotate_left
  · rw [T_requireCall_f i.gk.sc (by omega) hx, bX_3, M_isCall_f i.gk.mc (by omega) hx, bR_s, if_pos rfl, stp_e]
    exact i.bad (kk := 1) rfl rfl sV_eq Fr.sV Fr.rf
  obtain ⟨j, hj, rfl⟩ := hx
  rw [T_requireCall_t i.gk.sc (by omega) hj, bX_r, M_isCall_t i.gk.mc (by omega) hj, bR_s, if_neg (show ¬ (1 : Int32) = 0 by decide)]
  by_cases hy : isIx m p2
  rotate_left
  · rw [T_requireBooking_f i.gb.sm (by omega) hy, bX_3, M_isBooking_f i.gb.mm (by omega) hy, bR_s, if_pos rfl, stp_e]
    exact i.bad (kk := 1) rfl rfl sV_eq Fr.sV Fr.rf
  obtain ⟨b, hb, rfl⟩ := hy
  rw [T_requireBooking_t i.gb.sm (by omega) hb, bX_r, M_isBooking_t i.gb.mm (by omega) hb, bR_s, if_neg (show ¬ (1 : Int32) = 0 by decide), stp_e, chk_in (by omega) (by decide), sV_a, nI_clamp (n := j) (by omega)]
  have f0 : Fr [] [0] μ (sV (sV μ 0 0) 0 2) := (Fr.sV.tr Fr.sV).mono (by decide) (by decide)
  rcases i.gk.go j hj with h0 | h1
  · rw [T_requireOngoing_f i.gk hj h0, bX_2, h0, if_pos nI_0, stp_e]
    exact i.bad (kk := 2) rfl rfl sV_eq f0 Fr.rf
  have iw := isWithin_v (x := 2) i.gb i.gk hj hb
  have io := isOf_v (μ := sV μ 0 0) (j := j) (b := b) (by omega) (by omega)
  rw [sV_a] at io
  by_cases w1 : μ.1 13 b = 2
  rotate_left
  · rw [if_neg (fun e => w1 e.1)] at iw
    rw [T_requireOngoing_t i.gk hj h1, bX_r, h1, if_neg (show ¬ nI 1 = 0 by decide), iw, bR_s, if_pos rfl, chk_in (by omega) (by decide), nI_clamp (by omega), if_neg w1, stp_e]
    exact i.bad (kk := 2) rfl rfl sV_eq f0 Fr.rf
  by_cases w2 : μ.1 15 b = μ.1 9 j ∧ μ.1 16 b = μ.1 10 j
  rotate_left
  · rw [if_neg (fun e => w2 e.2)] at iw
    rw [if_neg w2] at io
    rw [T_requireOngoing_t i.gk hj h1, bX_r, h1, if_neg (show ¬ nI 1 = 0 by decide), iw, bR_s, if_pos rfl, chk_in (by omega) (by decide), nI_clamp (by omega), if_pos w1, io, bR_s, if_pos rfl, stp_e]
    exact i.bad (kk := 2) rfl rfl sV_eq f0 Fr.rf
  obtain ⟨τ, r1, f, r3, r4⟩ := release_v (x := 5) i.gb hb i.gy.n30
  rw [if_pos ⟨w1, w2⟩] at iw
  rw [if_pos w2] at io
  rw [T_requireOngoing_t i.gk hj h1, bX_r, h1, if_neg (show ¬ nI 1 = 0 by decide), iw, bR_s, if_neg (show ¬ (1 : Int32) = 0 by decide), r1, bR_s, chk_in (by omega) (by decide), bR_s, chk_in (by omega) (by decide), nI_clamp (by omega), if_pos w1, io, bR_s, if_neg (show ¬ (1 : Int32) = 0 by decide), stp_e, chk_in (by omega) (by decide), stp_e, chk_in (by omega) (by decide)]
  have f2 : Fr [13] [0] μ (sW (sV (sV μ 0 0) 0 0) 13 (nI b) 5) := ((Fr.sV.tr Fr.sV).tr Fr.sW).mono (by decide) (by decide)
  have e13 : (sW (sV (sV μ 0 0) 0 0) 13 (nI b) 5).1 13 = upd (μ.1 13) b 5 := by rw [sW_eq (by omega), sV_a, sV_a]
  rw [f.a 18, f2.a 18, i.gb.e18]
  refine ⟨_, _, _, rfl, rfl, ⟨0, rfl, by rw [sW_v, sV_eq]; rfl, fun _ => rfl⟩, L, B, n, T, hh, m, c, by have := i.hk; omega, i.gy.fr f f2, i.gc.fr f f2, ?_, ?_, ?_, i.gs.fr f f2⟩
  · exact i.gb.rel f f2 hb e13 (by rw [r3, e13, i.gb.e16]) (by rw [f.a 17, f2.a 17]; exact i.gb.e17) r4 (by rw [w1]; decide) (by decide)
  · refine i.gk.st f f2 (by rw [f.a 23, f2.a 12]; exact i.gk.e23) (fun q hq => by rw [f2.a 12]; exact i.gk.op q hq) (fun q hq gq b' hb' ob => ?_)
    rw [f2.a 12] at ob
    have h9 := i.gk.opo q hq gq b' hb' ob
    have hbb : b' ≠ b := by
      rintro rfl
      rw [w1] at h9
      exact absurd h9.1 (by decide)
    rw [e13, upd_ne hbb]
    exact h9
  · exact i.gt.st f2 (fun b' _ h => by rw [e13]; exact upd34 (by rw [w1]; decide) (by rw [w1]; decide) b' h)
/-! a call's end -/
def clr (f : Nat → Int32) (j : Nat) : Nat → Int32 := fun s => if s < 6 ∧ f s = nI j then nM else f s
theorem T_end_v {σ μ : tyS} {m c j : Nat} (g : Gk σ μ m c) (hj : j < c) (h1 : μ.1 11 j = nI 1) : ∃ q τ, q < 6 ∧ μ.1 9 j = nI q ∧ tyf_B_end σ (nI j) = some τ ∧ Fr [26, 27] [] σ τ ∧ τ.1 26 = upd (σ.1 26) q nM ∧ τ.1 27 = clr (μ.1 7) j := by
  have c60 := g.c60
  obtain ⟨q, hq, eq⟩ := g.cu j hj
  obtain ⟨ha, hb, hab, ht⟩ := g.tr2 j hj h1
  have hs0 : ∀ s, s < 6 → ¬ (s < 6 ∧ μ.1 7 s = nI j) → ¬ σ.1 24 j = nI s ∧ ¬ σ.1 25 j = nI s := fun s hs h => ⟨fun e => h ⟨hs, (ht s hs).mpr (Or.inl e)⟩, fun e => h ⟨hs, (ht s hs).mpr (Or.inr e)⟩⟩
  unfold tyf_B_end tyf_B_occupy
  rw [chk_in (by omega) (by decide), nI_clamp (n := j) (by omega), g.e21, eq, chk_in hq (by decide), stp_e, chk_in (by omega) (by decide), sW_ne (by decide)]
  rcases ha with ha | ⟨a, ha6, ha⟩
  · rw [ha, if_pos rfl, bR_s, chk_in (by omega) (by decide), sW_ne (by decide)]
    rcases hb with hb | ⟨b, hb6, hb⟩
    · rw [hb, if_pos rfl, bR_s]
      refine ⟨q, _, hq, rfl, rfl, Fr.sW.mono (by decide) (by decide), by rw [sW_eq (by omega)], ?_⟩
      rw [sW_ne (by decide), g.e27]
      funext s
      unfold clr
      rw [if_neg]
      rintro ⟨h1, h2⟩
      rcases (ht s h1).mp h2 with e | e
      · rw [ha] at e; exact nM_nI (by omega) e
      · rw [hb] at e; exact nM_nI (by omega) e
    · rw [hb, if_neg (nI_nM (by omega)), chk_in hb6 (by decide), stp_e, bR_s]
      refine ⟨q, _, hq, rfl, rfl, (Fr.sW.tr Fr.sW).mono (by decide) (by decide), by rw [sW_ne (by decide), sW_eq (by omega)], ?_⟩
      rw [sW_eq (by omega), sW_ne (by decide), g.e27]
      funext s
      unfold clr
      by_cases hs : s = b
      · subst hs
        rw [upd_eq, if_pos ⟨hb6, (ht s hb6).mpr (Or.inr hb)⟩]
      · rw [upd_ne hs, if_neg]
        rintro ⟨h1, h2⟩
        rcases (ht s h1).mp h2 with e | e
        · rw [ha] at e; exact nM_nI (by omega) e
        · rw [hb] at e; exact hs ((nI_eq (by omega) (by omega)).mp e).symm
  · rw [ha, if_neg (nI_nM (by omega)), chk_in ha6 (by decide), stp_e, bR_s, chk_in (by omega) (by decide), sW_ne (by decide), sW_ne (by decide)]
    rcases hb with hb | ⟨b, hb6, hb⟩
    · rw [hb, if_pos rfl, bR_s]
      refine ⟨q, _, hq, rfl, rfl, (Fr.sW.tr Fr.sW).mono (by decide) (by decide), by rw [sW_ne (by decide), sW_eq (by omega)], ?_⟩
      rw [sW_eq (by omega), sW_ne (by decide), g.e27]
      funext s
      unfold clr
      by_cases hs : s = a
      · subst hs
        rw [upd_eq, if_pos ⟨ha6, (ht s ha6).mpr (Or.inl ha)⟩]
      · rw [upd_ne hs, if_neg]
        rintro ⟨h1, h2⟩
        rcases (ht s h1).mp h2 with e | e
        · rw [ha] at e; exact hs ((nI_eq (by omega) (by omega)).mp e).symm
        · rw [hb] at e; exact nM_nI (by omega) e
    · rw [hb, if_neg (nI_nM (by omega)), chk_in hb6 (by decide), stp_e, bR_s]
      refine ⟨q, _, hq, rfl, rfl, ((Fr.sW.tr Fr.sW).tr Fr.sW).mono (by decide) (by decide), by rw [sW_ne (by decide), sW_ne (by decide), sW_eq (by omega)], ?_⟩
      rw [sW_eq (by omega), sW_eq (by omega), sW_ne (by decide), g.e27]
      funext s
      unfold clr
      by_cases hs : s = b
      · subst hs
        rw [upd_eq, if_pos ⟨hb6, (ht s hb6).mpr (Or.inr hb)⟩]
      · rw [upd_ne hs]
        by_cases hs2 : s = a
        · subst hs2
          rw [upd_eq, if_pos ⟨ha6, (ht s ha6).mpr (Or.inl ha)⟩]
        · rw [upd_ne hs2, if_neg]
          rintro ⟨h1, h2⟩
          rcases (ht s h1).mp h2 with e | e
          · rw [ha] at e; exact hs2 ((nI_eq (by omega) (by omega)).mp e).symm
          · rw [hb] at e; exact hs ((nI_eq (by omega) (by omega)).mp e).symm
def clrTo (f : Nat → Int32) (j t : Nat) : Nat → Int32 := fun s => if s < t ∧ f s = nI j then nM else f s
theorem M_ends_v {μ : tyS} {j : Nat} (hj : j < 60) : ∃ υ, tyf_M_ends μ (nI j) = some υ ∧ Fr [7, 11] [] μ υ ∧ υ.1 7 = clr (μ.1 7) j ∧ υ.1 11 = upd (μ.1 11) j 0 := by
  have lp : ∀ (d t f : Nat) (τ : tyS), 6 - t = d → t ≤ 6 → d < f → Fr [7, 11] [] μ τ → τ.1 7 = clrTo (μ.1 7) j t → τ.1 11 = upd (μ.1 11) j 0 → ∃ υ, tyl_M_ends_9 (fun σ0 x1 x2 => some σ0) f τ (nI j) (nI t) = some υ ∧ Fr [7, 11] [] μ υ ∧ υ.1 7 = clr (μ.1 7) j ∧ υ.1 11 = upd (μ.1 11) j 0 := by
    intro d
    induction d with
    | zero =>
      intro t f τ hd ht hf fr h7 h11
      obtain ⟨f, rfl⟩ : ∃ g, f = g + 1 := ⟨f - 1, by omega⟩
      have : t = 6 := by omega
      subst this
      refine ⟨τ, ?_, fr, h7, h11⟩
      show tyb_M_ends_9 _ _ _ _ _ = _
      unfold tyb_M_ends_9
      rw [il6, if_pos (nI_le (by omega) (by omega))]
    | succ d ih =>
      intro t f τ hd ht hf fr h7 h11
      obtain ⟨f, rfl⟩ : ∃ g, f = g + 1 := ⟨f - 1, by omega⟩
      have ht7 : τ.1 7 t = μ.1 7 t := by rw [h7]; unfold clrTo; rw [if_neg (by omega)]
      show ∃ υ, tyb_M_ends_9 _ _ _ _ _ = _ ∧ _
      unfold tyb_M_ends_9
      rw [il6, if_neg (nI_ge (by omega) (by omega)), chk_in (by omega) (by decide), chk_in (by omega) (by decide), chk_in (by omega) (by decide), chk_in (by omega) (by decide), nI_clamp (by omega), ht7, stp_e, stp_e, il1, nI_add]
      by_cases he : μ.1 7 t = nI j
      · rw [if_pos he]
        refine ih (t + 1) f _ (by omega) (by omega) (by omega) ((fr.tr Fr.sW).mono (by decide) (by decide)) ?_ (by rw [sW_ne (by decide)]; exact h11)
        rw [sW_eq (by omega), h7]
        funext s
        unfold clrTo
        by_cases hs : s = t
        · subst hs
          rw [upd_eq, if_pos ⟨by omega, he⟩]; rfl
        · rw [upd_ne hs]
          by_cases h8 : s < t ∧ μ.1 7 s = nI j
          · rw [if_pos h8, if_pos ⟨by omega, h8.2⟩]
          · rw [if_neg h8, if_neg (fun e => h8 ⟨by omega, e.2⟩)]
      · rw [if_neg he]
        refine ih (t + 1) f _ (by omega) (by omega) (by omega) ((fr.tr Fr.sW).mono (by decide) (by decide)) ?_ (by rw [sW_ne (by decide)]; exact h11)
        rw [sW_eq (by omega), h7]
        funext s
        unfold clrTo
        by_cases hs : s = t
        · subst hs
          rw [upd_eq, if_neg (fun e => he e.2)]
        · rw [upd_ne hs]
          by_cases h8 : s < t ∧ μ.1 7 s = nI j
          · rw [if_pos h8, if_pos ⟨by omega, h8.2⟩]
          · rw [if_neg h8, if_neg (fun e => h8 ⟨by omega, e.2⟩)]
  unfold tyf_M_ends
  rw [chk_in hj (by decide), stp_e]
  refine lp 6 0 64 _ (by omega) (by omega) (by omega) (Fr.sW.mono (by decide) (by decide)) ?_ (by rw [sW_eq (by omega)])
  rw [sW_ne (by decide)]
  funext s
  unfold clrTo
  rw [if_neg (by omega)]
theorem Gk.endd {σ μ σ' μ' : tyS} {m c j q : Nat} {as vs bs us : List Nat} (g : Gk σ μ m c) (hj : j < c) (h1 : μ.1 11 j = nI 1) (hq : q < 6) (eq : μ.1 9 j = nI q) (f : Fr as vs σ σ') (f2 : Fr bs us μ μ') (e26 : σ'.1 26 = upd (σ.1 26) q nM) (e27 : σ'.1 27 = clr (μ.1 7) j) (e7 : μ'.1 7 = clr (μ.1 7) j) (e11 : μ'.1 11 = upd (μ.1 11) j 0) (d1 : dis as [21, 22, 23, 24, 25, 28] = true := by decide) (d2 : dis vs [6] = true := by decide) (d3 : dis bs [8, 9, 10, 12, 13, 15] = true := by decide) (d4 : dis us [3] = true := by decide) : Gk σ' μ' m c := by
  have c60 := g.c60
  have e26q := g.on2 j hj h1 q hq eq
  have ne : ∀ i, i < c → upd (μ.1 11) j 0 i = nI 1 → i ≠ j ∧ μ.1 11 i = nI 1 := by
    intro i hi h
    by_cases hij : i = j
    · rw [hij, upd_eq] at h; exact absurd h (by decide)
    · rw [upd_ne hij] at h; exact ⟨hij, h⟩
  refine ⟨?_, ?_, ?_, ?_, ?_, ?_, ?_, ?_, ?_, ?_, ?_, ?_, ?_, ?_, ?_, ?_, ?_⟩
  · rw [f.vd d2 (a := 6) (by decide)]; exact g.sc
  · rw [f2.vd d4 (a := 3) (by decide)]; exact g.mc
  · exact g.c60
  · rw [f.ad d1 (a := 21) (by decide), f2.ad d3 (a := 9) (by decide)]; exact g.e21
  · rw [f.ad d1 (a := 22) (by decide), f2.ad d3 (a := 10) (by decide)]; exact g.e22
  · rw [f.ad d1 (a := 23) (by decide), f2.ad d3 (a := 12) (by decide)]; exact g.e23
  · rw [e27, e7]
  · rw [f.ad d1 (a := 28) (by decide), f2.ad d3 (a := 8) (by decide)]; exact g.e28
  · rw [f2.ad d3 (a := 9) (by decide)]; exact g.cu
  · rw [f2.ad d3 (a := 10) (by decide)]; exact g.ya
  · rw [f2.ad d3 (a := 12) (by decide)]; exact g.op
  · rw [e11, f2.ad d3 (a := 12) (by decide), f2.ad d3 (a := 13) (by decide), f2.ad d3 (a := 15) (by decide), f2.ad d3 (a := 9) (by decide)]
    exact fun i hi h => g.opo i hi (ne i hi h).2
  · rw [e11]
    intro i hi
    by_cases hij : i = j
    · rw [hij, upd_eq]; exact Or.inl rfl
    · rw [upd_ne hij]; exact g.go i hi
  · rw [e26, f2.ad d3 (a := 9) (by decide), e11]
    intro q' hq'
    by_cases hqq : q' = q
    · rw [hqq, upd_eq]; exact Or.inl rfl
    · rw [upd_ne hqq]
      rcases g.on1 q' hq' with h | ⟨i, hi, a1, a2, a3⟩
      · exact Or.inl h
      · refine Or.inr ⟨i, hi, a1, a2, ?_⟩
        have hij : i ≠ j := by
          rintro rfl
          rw [eq] at a2
          exact hqq ((nI_eq (by omega) (by omega)).mp a2).symm
        rw [upd_ne hij]; exact a3
  · rw [e26, f2.ad d3 (a := 9) (by decide), e11]
    intro i hi h q' hq' a2
    obtain ⟨hij, h⟩ := ne i hi h
    have a1 := g.on2 i hi h q' hq' a2
    have hqq : q' ≠ q := by
      rintro rfl
      exact hij ((nI_eq (by omega) (by omega)).mp (a1.symm.trans e26q))
    rw [upd_ne hqq]; exact a1
  · rw [e7, e11]
    intro s hs
    unfold clr
    by_cases h8 : s < 6 ∧ μ.1 7 s = nI j
    · rw [if_pos h8]; exact Or.inl rfl
    · rw [if_neg h8]
      rcases g.tr1 s hs with h | h | ⟨i, hi, a1, a2⟩
      · exact Or.inl h
      · exact Or.inr (Or.inl h)
      · refine Or.inr (Or.inr ⟨i, hi, a1, ?_⟩)
        have hij : i ≠ j := by
          rintro rfl
          exact h8 ⟨hs, a1⟩
        rw [upd_ne hij]; exact a2
  · rw [f.ad d1 (a := 24) (by decide), f.ad d1 (a := 25) (by decide), e7, e11]
    intro i hi h
    obtain ⟨hij, h⟩ := ne i hi h
    obtain ⟨a1, a2, a3, a4⟩ := g.tr2 i hi h
    refine ⟨a1, a2, a3, fun s hs => ?_⟩
    rw [← a4 s hs]
    unfold clr
    by_cases h8 : s < 6 ∧ μ.1 7 s = nI j
    · rw [if_pos h8, h8.2]
      exact ⟨fun e => absurd e (nM_nI (by omega)), fun e => absurd ((nI_eq (by omega) (by omega)).mp e).symm hij⟩
    · rw [if_neg h8]
