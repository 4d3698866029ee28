/-! ===== the pure part: pass ===== -/
theorem lapse_lp {σ0 μ0 : tyS} {B : Nat → List Nat} {n m : Nat} {now p1 : Int32} (n30 : n ≤ 30) : ∀ (d j f : Nat) (cnt : Int32) (σ μ : tyS), m - j = d → j ≤ m → d < f → Gb σ μ B n m → μ.2 1 = now → Fr [16, 20] [] σ0 σ → Fr [13] [] μ0 μ → (∀ b, μ0.1 13 b ≠ nI 1 → μ.1 13 b = μ0.1 13 b) → ∃ r τ υ, tyl_L_lapseAll_4 (fun σ0 x1 x2 x3 => some (x2, σ0)) f σ now cnt (nI j) = some (r, τ) ∧ tyl_M_pass_58 (fun σ0 x1 x2 x3 => some (x2, σ0)) f μ p1 cnt (nI j) = some (r, υ) ∧ Gb τ υ B n m ∧ Fr [16, 20] [] σ0 τ ∧ Fr [13] [] μ0 υ ∧ ∀ b, μ0.1 13 b ≠ nI 1 → υ.1 13 b = μ0.1 13 b := by
  intro d
  induction d with
  | zero =>
    intro j f cnt σ μ hd hj hf g hn f1 f2 hu
    have m40 := g.m40
    obtain ⟨f, rfl⟩ : ∃ g, f = g + 1 := ⟨f - 1, by omega⟩
    have hjm : j = m := by clear hu; omega
    refine ⟨cnt, σ, μ, ?_, ?_, g, f1, f2, hu⟩
    · show tyb_L_lapseAll_4 _ _ _ _ _ _ = _
      unfold tyb_L_lapseAll_4
      rw [g.sm, hjm, if_pos (nI_le (Nat.le_refl _) (by omega))]
    · show tyb_M_pass_58 _ _ _ _ _ _ = _
      unfold tyb_M_pass_58
      rw [g.mm, hjm, if_pos (nI_le (Nat.le_refl _) (by omega))]
  | succ d ih =>
    intro j f cnt σ μ hd hj hf g hn f1 f2 hu
    have m40 := g.m40
    obtain ⟨f, rfl⟩ : ∃ g, f = g + 1 := ⟨f - 1, by omega⟩
    have hjm : j < m := by omega
    have a1 : m - (j + 1) = d := by omega
    have a3 : d < f := by omega
    have eC : tyl_L_lapseAll_4 (fun σ0 x1 x2 x3 => some (x2, σ0)) (f + 1) σ now cnt (nI j) = (if μ.1 13 j = 1 then (if now < μ.1 17 j then tyl_L_lapseAll_4 (fun σ0 x1 x2 x3 => some (x2, σ0)) f σ now cnt (nI (j + 1)) else bR (tyf_L_release σ (nI j) 5) fun σ6 => tyl_L_lapseAll_4 (fun σ0 x1 x2 x3 => some (x2, σ0)) f σ6 now (cnt + 1) (nI (j + 1))) else tyl_L_lapseAll_4 (fun σ0 x1 x2 x3 => some (x2, σ0)) f σ now cnt (nI (j + 1))) := by
      show tyb_L_lapseAll_4 _ _ _ _ _ _ = _
      unfold tyb_L_lapseAll_4
      rw [g.sm, if_neg (nI_ge hjm (by omega)), chk_in (by omega) (by decide), chk_in (by omega) (by decide), nI_clamp (by omega), g.e16, g.e17, ← nI_add j 1]
      rfl
    have eM : tyl_M_pass_58 (fun σ0 x1 x2 x3 => some (x2, σ0)) (f + 1) μ p1 cnt (nI j) = (if μ.1 13 j = 1 then (if now < μ.1 17 j then tyl_M_pass_58 (fun σ0 x1 x2 x3 => some (x2, σ0)) f μ p1 cnt (nI (j + 1)) else tyl_M_pass_58 (fun σ0 x1 x2 x3 => some (x2, σ0)) f (sW μ 13 (nI j) 5) p1 (cnt + 1) (nI (j + 1))) else tyl_M_pass_58 (fun σ0 x1 x2 x3 => some (x2, σ0)) f μ p1 cnt (nI (j + 1))) := by
      show tyb_M_pass_58 _ _ _ _ _ _ = _
      unfold tyb_M_pass_58
      rw [g.mm, if_neg (nI_ge hjm (by omega)), chk_in (by omega) (by decide), chk_in (by omega) (by decide), chk_in (by omega) (by decide), nI_clamp (by omega), hn, stp_e, ← nI_add j 1]
      rfl
    rw [eC, eM]
    by_cases hs : μ.1 13 j = 1
    · rw [if_pos hs, if_pos hs]
      by_cases hl : now < μ.1 17 j
      · rw [if_pos hl, if_pos hl]
        exact ih (j + 1) f cnt σ μ a1 hjm a3 g hn f1 f2 hu
      · rw [if_neg hl, if_neg hl]
        obtain ⟨τ, r1, r2, r3, r4⟩ := release_v (x := 5) g hjm n30
        rw [r1, bR_s]
        have f4 : Fr [13] [] μ (sW μ 13 (nI j) 5) := Fr.sW
        have e13 : (sW μ 13 (nI j) 5).1 13 = upd (μ.1 13) j 5 := by rw [sW_eq (by omega)]
        refine ih (j + 1) f (cnt + 1) τ (sW μ 13 (nI j) 5) a1 hjm a3 ?_ hn ((f1.tr r2).mono (by decide) (by decide)) ((f2.tr f4).mono (by decide) (by decide)) (fun b hb => ?_)
        · exact g.rel r2 f4 hjm e13 (by rw [r3, e13, g.e16]) (by rw [r2.a 17, f4.a 17]; exact g.e17) r4 (by rw [hs]; decide) (by decide)
        · have hbj : b ≠ j := by
            rintro rfl
            rw [hu b hb] at hs
            exact hb hs
          rw [e13, upd_ne hbj]
          exact hu b hb
    · rw [if_neg hs, if_neg hs]
      exact ih (j + 1) f cnt σ μ a1 hjm a3 g hn f1 f2 hu
theorem M_in_100 {σ : tyS} {p : Int32} : tyf_M_in σ p 1 100 = some (if p < 1 then 0 else if 100 < p then 0 else 1) := by
  unfold tyf_M_in
  by_cases h1 : p < 1
  · rw [if_pos h1, if_pos h1]
  · rw [if_neg h1, if_neg h1]
    by_cases h2 : 100 < p
    · rw [if_pos h2, if_pos h2]
    · rw [if_neg h2, if_neg h2]
theorem op_pass {k : Nat} {σ μ : tyS} (h : Inv k σ μ) (hk : k < 512) (p1 : Int32) : ∃ res v μ', tyf_T_pass σ p1 = some res ∧ tyf_M_pass μ p1 = some (v, μ') ∧ Ag [1, 2] res v μ' ∧ Inv (k + 1) res.2.2 μ' := by
  obtain ⟨L, B, n, T, hh, m, c, i⟩ := h
  have m40 := i.gb.m40
  have c60 := i.gk.c60
  unfold tyf_T_pass tyf_M_pass
  rw [M_in_100, bR_s]
  by_cases h1 : p1 < 1
  · rw [if_pos h1, if_pos h1, if_pos rfl, stp_e]
    exact i.bad (kk := 1) rfl rfl sV_eq Fr.sV Fr.rf
  rw [if_neg h1, if_neg h1]
  by_cases h6 : p1 ≤ 100
  rotate_left
  · rw [if_neg h6, if_pos (Int32.not_le.mp h6), if_pos rfl, stp_e]
    exact i.bad (kk := 1) rfl rfl sV_eq Fr.sV Fr.rf
  rw [if_pos h6, if_neg (Int32.not_lt.mpr h6), if_neg (show ¬ (1 : Int32) = 0 by decide), i.gs.now]
  by_cases h2 : μ.2 1 + p1 ≤ 10000
  rotate_left
  · rw [if_neg h2, if_neg h2, stp_e]
    exact i.bad (kk := 2) rfl rfl sV_eq Fr.sV Fr.rf
  rw [if_pos h2, if_pos h2, stp_e, stp_e, stp_e, sV_eq, sV_ne (by decide)]
  unfold tyf_L_lapseAll
  have f1 : Fr [] [3] σ (sV σ 3 (μ.2 1 + p1)) := Fr.sV
  have f2 : Fr [] [0, 1] μ (sV (sV μ 0 0) 1 (μ.2 1 + p1)) := (Fr.sV.tr Fr.sV).mono (by decide) (by decide)
  have g1 := i.gb.fr f1 f2
  obtain ⟨r, τ, υ, t1, t2, t3, t4, t5, t6⟩ := lapse_lp (σ0 := sV σ 3 (μ.2 1 + p1)) (μ0 := sV (sV μ 0 0) 1 (μ.2 1 + p1)) (now := μ.2 1 + p1) (p1 := p1) i.gy.n30 m 0 64 0 _ _ (by omega) (by omega) (by omega) g1 sV_eq Fr.rf Fr.rf (fun b _ => rfl)
  have e1 : tyl_L_lapseAll_4 (fun σ0 x1 x2 x3 => some (x2, σ0)) 64 (sV σ 3 (μ.2 1 + p1)) (μ.2 1 + p1) 0 0 = some (r, τ) := t1
  have e2 : tyl_M_pass_58 (fun σ0 x1 x2 x3 => some (x2, σ0)) 64 (sV (sV μ 0 0) 1 (μ.2 1 + p1)) p1 0 0 = some (r, υ) := t2
  rw [e1, bN_s, e2]
  have f : Fr [16, 20] [3] σ τ := (f1.tr t4).mono (by decide) (by decide)
  have f3 : Fr [13] [0, 1] μ υ := (f2.tr t5).mono (by decide) (by decide)
  have hst : ∀ b, μ.1 13 b ≠ nI 1 → υ.1 13 b = μ.1 13 b := t6
  refine ⟨_, _, _, rfl, rfl, ⟨0, rfl, by rw [t5.v 0, sV_ne (by decide), sV_eq]; rfl, fun _ => rfl⟩, L, B, n, T, hh, m, c, by have := i.hk; omega, i.gy.fr f f3, i.gc.fr f f3, t3, ?_, ?_, ?_⟩
  · refine i.gk.st f f3 (by rw [f.a 23, f3.a 12]; exact i.gk.e23) (fun q hq => by rw [f3.a 12]; exact i.gk.op q hq) (fun q hq gq b' hb' ob => ?_)
    rw [f3.a 12] at ob
    have h9 := i.gk.opo q hq gq b' hb' ob
    rw [hst b' (by rw [h9.1]; decide)]
    exact h9
  · refine i.gt.st f3 (fun b' _ h => ?_)
    rw [hst b' (by rcases h with h | h <;> rw [h] <;> decide)]
    exact h
  · constructor
    · rw [f.v 2, f3.v 4]; exact i.gs.busy
    · rw [t4.v 3, t5.v 1, sV_eq, sV_eq]
