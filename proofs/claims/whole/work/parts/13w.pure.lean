/-! ===== the pure part: arrive ===== -/
def gho (μ : tyS) (D : List Nat) : tyS := sA μ 13 (setB (μ.1 13) (kM μ) D 4)
theorem gho_13 {μ : tyS} {D : List Nat} : (gho μ D).1 13 = setB (μ.1 13) (kM μ) D 4 := sA_eq
theorem gho_o {μ : tyS} {D : List Nat} {a : Nat} (h : a ≠ 13) : (gho μ D).1 a = μ.1 a := sA_ne h
theorem T_unload_v {σ μ : tyS} {L B : Nat → List Nat} {n m r : Nat} (g : Gb σ μ B n m) (hR : Rows (σ.1 6) (σ.1 7) 55 L) (hp : Pl L n) (n30 : n ≤ 30) (hr : r < 55) (hgo : ∀ w ∈ L r, ∃ b, b < m ∧ μ.1 3 w = nI b ∧ (μ.1 13 b = nI 3 ∨ μ.1 13 b = nI 4)) : ∃ τ, tyf_T_unload σ (nI r) = some τ ∧ Fr [16, 20] [] σ τ ∧ Gb τ (gho μ (L r)) B n m := by
  have m40 := g.m40
  have hl6 := hR.len hr
  have lp : ∀ (d j f : Nat) (τ : tyS), (L r).length - j = d → j ≤ (L r).length → d < f → Fr [16, 20] [] σ τ → Gb τ (gho μ ((L r).take j)) B n m → ∃ υ, tyl_T_unload_2 (fun σ0 x1 x2 => some σ0) f τ (nI r) (nI j) = some υ ∧ Fr [16, 20] [] σ υ ∧ Gb υ (gho μ (L r)) B n m := by
    intro d
    induction d with
    | zero =>
      intro j f τ hd hj hf fr hg
      obtain ⟨f, rfl⟩ : ∃ g, f = g + 1 := ⟨f - 1, by omega⟩
      have hjl : j = (L r).length := by omega
      rw [hjl, List.take_length] at hg
      refine ⟨τ, ?_, fr, hg⟩
      have hR2 : Rows (τ.1 6) (τ.1 7) 55 L := by rw [fr.a 6, fr.a 7]; exact hR
      show tyb_T_unload_2 _ _ _ _ _ = _
      unfold tyb_T_unload_2
      rw [R1_count_v hR2 hr, bR_s, if_pos (nI_le (by omega) (by omega))]
    | succ d ih =>
      intro j f τ hd hj hf fr hg
      obtain ⟨f, rfl⟩ : ∃ g, f = g + 1 := ⟨f - 1, by omega⟩
      obtain ⟨w, hw⟩ := lt_get? (l := L r) (i := j) (by omega)
      have hwn := (hp.1 r hr).2 w (get?_mem hw)
      obtain ⟨b, hb, e2, e3⟩ := hgo w (get?_mem hw)
      have hk : kM μ w = b := by unfold kM; rw [e2, nI_clamp (by omega)]
      have hR2 : Rows (τ.1 6) (τ.1 7) 55 L := by rw [fr.a 6, fr.a 7]; exact hR
      have g3 : (gho μ ((L r).take j)).1 3 w = nI b := by rw [gho_o (by decide)]; exact e2
      have hst : (gho μ ((L r).take j)).1 13 b = nI 3 ∨ (gho μ ((L r).take j)).1 13 b = nI 4 := by
        rw [gho_13]
        rcases setB_or (f := μ.1 13) (key := kM μ) (D := (L r).take j) (x := 4) b with ⟨v, -, -, e⟩ | ⟨-, e⟩
        · rw [e]; exact Or.inr rfl
        · rw [e]; exact e3
      have hsn : setB (μ.1 13) (kM μ) ((L r).take (j + 1)) 4 = upd ((gho μ ((L r).take j)).1 13) b 4 := by
        rw [gho_13, setB_snoc hk, take_snoc hw]
      have ev : tyl_T_unload_2 (fun σ0 x1 x2 => some σ0) (f + 1) τ (nI r) (nI j) = if τ.1 20 w = -1 then tyl_T_unload_2 (fun σ0 x1 x2 => some σ0) f τ (nI r) (nI (j + 1)) else bR (tyf_L_release τ (τ.1 20 w) 4) fun σ6 => tyl_T_unload_2 (fun σ0 x1 x2 => some σ0) f σ6 (nI r) (nI (j + 1)) := by
        show tyb_T_unload_2 _ _ _ _ _ = _
        unfold tyb_T_unload_2 tyf_L_bookingFor
        rw [R1_count_v hR2 hr, bR_s, if_neg (nI_ge (by omega) (by omega)), R1_get_v hR2 hr hw, bR_s, chk_in (by omega) (by decide), bR_s, nI_clamp (n := w) (by omega), ← nI_add j 1]
        rfl
      rw [ev]
      rcases hg.bk w hwn with ⟨h1, -⟩ | ⟨b2, hb2, h1, h2, h3⟩
      · rw [g3] at h1; exact absurd h1 (nI_nM (by omega))
      · rw [g3] at h1
        have := (nI_eq (by omega) (by omega)).mp h1
        subst this
        rcases h3 with ⟨h3, h4⟩ | ⟨h3, h4⟩
        · rw [if_pos h4]
          have h5 : (gho μ ((L r).take j)).1 13 b = 4 := by
            rcases hst with h | h
            · rw [h] at h3; exact absurd h3 (by decide)
            · exact h
          have eg : gho μ ((L r).take (j + 1)) = gho μ ((L r).take j) := by
            unfold gho
            rw [hsn, upd_id h5, gho_13]
          exact ih (j + 1) f τ (by omega) (by omega) (by omega) fr (by rw [eg]; exact hg)
        · rw [h4, if_neg (show ¬ nI b = -1 from nI_nM (by omega))]
          obtain ⟨ρ, r1, r2, r3, r4⟩ := release_v (x := 4) hg hb n30
          rw [r1, bR_s]
          have fg : Fr [13] [] (gho μ ((L r).take j)) (gho μ ((L r).take (j + 1))) := ⟨fun a ha => by
            have ha : a ≠ 13 := fun e => ha (by rw [e]; exact List.mem_singleton.mpr rfl)
            rw [gho_o ha, gho_o ha], fun _ _ => rfl⟩
          have e13 : (gho μ ((L r).take (j + 1))).1 13 = upd ((gho μ ((L r).take j)).1 13) b 4 := by rw [gho_13, hsn]
          refine ih (j + 1) f ρ (by omega) (by omega) (by omega) ((fr.tr r2).mono (by decide) (by decide)) ?_
          exact hg.rel r2 fg hb e13 (by rw [r3, e13, hg.e16]) (by rw [r2.a 17, fg.a 17]; exact hg.e17) r4 h3 (by decide)
  unfold tyf_T_unload
  refine lp (L r).length 0 64 σ (by omega) (by omega) (by omega) Fr.rf ?_
  rw [List.take_zero]
  have fg : Fr [] [] μ (gho μ []) := ⟨fun a _ => by
    by_cases ha : a = 13
    · rw [ha, gho_13, setB_nil]
    · rw [gho_o ha], fun _ _ => rfl⟩
  exact g.fr (Fr.rf (as := []) (vs := [])) fg
theorem M_arrive_lp {σ μ0 : tyS} {L B : Nat → List Nat} {n m t z u : Nat} (g : Gb σ μ0 B n m) (hp : Pl L n) (n30 : n ≤ 30) (ht : t < 40) (hz : z < 3) (hu : u < 5) (e20 : μ0.1 20 t = nI z) (e22 : μ0.1 22 t = nI (L (15 + t)).length) (e23 : stR (μ0.1 23) (6 * t) (L (15 + t))) (hl6 : (L (15 + t)).length ≤ 6) (hl : (L (5 * z + u)).length + (L (15 + t)).length ≤ 6) (hgo : ∀ w ∈ L (15 + t), ∃ b, b < m ∧ μ0.1 3 w = nI b) : ∀ (d j f : Nat) (μ : tyS), (L (15 + t)).length - j = d → j ≤ (L (15 + t)).length → d < f → Fr [1, 4, 5, 13] [] μ0 μ → Rows (μ.1 4) (μ.1 5) 15 (setL L (5 * z + u) (L (5 * z + u) ++ (L (15 + t)).take j)) → μ.1 1 = setW (μ0.1 1) ((L (15 + t)).take j) (nI (pcode (5 * z + u))) → μ.1 13 = setB (μ0.1 13) (kM μ0) ((L (15 + t)).take j) 4 → ∃ υ, tyl_M_arrive_106 (fun σ0 x1 x2 x3 => chk (inb x1 40) (chk (inb ((5 * (σ0.1 20 (x1).toNatClampNeg)) + x2) 15) (some ((σ0.1 4 (((5 * (σ0.1 20 (x1).toNatClampNeg)) + x2)).toNatClampNeg), σ0)))) f μ (nI t) (nI u) (nI j) = some (nI ((L (5 * z + u)).length + (L (15 + t)).length), υ) ∧ Fr [1, 4, 5, 13] [] μ0 υ ∧ Rows (υ.1 4) (υ.1 5) 15 (setL L (5 * z + u) (L (5 * z + u) ++ L (15 + t))) ∧ υ.1 1 = setW (μ0.1 1) (L (15 + t)) (nI (pcode (5 * z + u))) ∧ υ.1 13 = setB (μ0.1 13) (kM μ0) (L (15 + t)) 4 := by
  intro d
  have m40 := g.m40
  have hr : 5 * z + u < 15 := by omega
  induction d with
  | zero =>
    intro j f μ hd hj hf fr hR h1 h13
    obtain ⟨f, rfl⟩ : ∃ g, f = g + 1 := ⟨f - 1, by omega⟩
    have hjl : j = (L (15 + t)).length := by omega
    rw [hjl, List.take_length] at h1 h13 hR
    refine ⟨μ, ?_, fr, hR, h1, h13⟩
    show tyb_M_arrive_106 _ _ _ _ _ _ = _
    unfold tyb_M_arrive_106
    rw [chk_in ht (by decide), nI_clamp (by omega), fr.a 22, e22, if_pos (nI_le (by omega) (by omega))]
    show chk (inb (nI t) 40) (chk (inb ((5 * (μ.1 20 (nI t).toNatClampNeg)) + nI u) 15) (some ((μ.1 4 (((5 * (μ.1 20 (nI t).toNatClampNeg)) + nI u)).toNatClampNeg), μ))) = _
    rw [chk_in ht (by decide), nI_clamp (n := t) (by omega), fr.a 20, e20, il5, nI_mul, nI_add, chk_in hr (by decide), nI_clamp (by omega), hR.c hr, setL_eq, List.length_append]
  | succ d ih =>
    intro j f μ hd hj hf fr hR h1 h13
    obtain ⟨f, rfl⟩ : ∃ g, f = g + 1 := ⟨f - 1, by omega⟩
    obtain ⟨w, hw⟩ := lt_get? (l := L (15 + t)) (i := j) (by omega)
    have hwn := (hp.1 (15 + t) (by omega)).2 w (get?_mem hw)
    obtain ⟨b, hb, e2⟩ := hgo w (get?_mem hw)
    have hk : kM μ0 w = b := by unfold kM; rw [e2, nI_clamp (by omega)]
    obtain ⟨υ, g1, g2, g3, g4, -⟩ := puts_app (w := w) hR hz hu (by omega) hw hl
    have fυ : Fr [1, 4, 5, 13] [] μ0 υ := (fr.tr g2).mono (by decide) (by decide)
    have e : tyl_M_arrive_106 (fun σ0 x1 x2 x3 => chk (inb x1 40) (chk (inb ((5 * (σ0.1 20 (x1).toNatClampNeg)) + x2) 15) (some ((σ0.1 4 (((5 * (σ0.1 20 (x1).toNatClampNeg)) + x2)).toNatClampNeg), σ0)))) (f + 1) μ (nI t) (nI u) (nI j) = tyl_M_arrive_106 (fun σ0 x1 x2 x3 => chk (inb x1 40) (chk (inb ((5 * (σ0.1 20 (x1).toNatClampNeg)) + x2) 15) (some ((σ0.1 4 (((5 * (σ0.1 20 (x1).toNatClampNeg)) + x2)).toNatClampNeg), σ0)))) f (sW υ 13 (nI b) 4) (nI t) (nI u) (nI (j + 1)) := by
      show tyb_M_arrive_106 _ _ _ _ _ _ = _
      unfold tyb_M_arrive_106
      rw [chk_in ht (by decide), nI_clamp (n := t) (by omega), fr.a 22, e22, if_neg (nI_ge (by omega) (by omega)), il6, nI_mul, nI_add, chk_in (by omega) (by decide), chk_in ht (by decide), fr.a 20, e20, nI_clamp (n := 6 * t + j) (by omega), fr.a 23, e23 j w hw, g1, bR_s, chk_in (by omega) (by decide), nI_clamp (n := w) (by omega), fυ.a 3, e2, chk_in (by omega) (by decide), stp_e, ← nI_add j 1]
      rfl
    rw [e]
    refine ih (j + 1) f _ (by omega) (by omega) (by omega) ((fυ.tr Fr.sW).mono (by decide) (by decide)) ?_ ?_ ?_
    · rw [sW_ne (by decide), sW_ne (by decide)]; exact g3
    · rw [sW_ne (by decide), g4, h1, setW_snoc, take_snoc hw]
    · rw [sW_eq (by omega), g2.a 13, h13, setB_snoc hk, take_snoc hw]
theorem op_arrive {k : Nat} {σ μ : tyS} (h : Inv k σ μ) (hk : k < 512) (p1 p2 : Int32) : ∃ res v μ', tyf_T_arrive σ p1 p2 = some res ∧ tyf_M_arrive μ p1 p2 = some (v, μ') ∧ Ag [3, 1, 2] res v μ' ∧ Inv (k + 1) res.2.2 μ' := by
  obtain ⟨L, B, n, T, hh, m, c, i⟩ := h
  have n30 := i.gy.n30
  have m40 := i.gb.m40
  have T40 := i.gy.T40
  unfold tyf_T_arrive tyf_M_arrive
  rw [i.gy.sT, i.gy.mT]
  by_cases hp : isIx T p1
  rotate_left
  · rw [M_in_f (by omega) hp, bR_s, if_pos rfl, stp_e]
    rcases not_ix (by omega) hp with h1 | ⟨h1, h2⟩
    · rw [if_pos (show p1 < 0 from h1)]
      exact i.bad (kk := 1) rfl rfl sV_eq Fr.sV Fr.rf
    · rw [if_neg (show ¬ p1 < 0 from h1), if_neg (fun h3 => absurd h3 (Int32.not_lt.mpr h2))]
      exact i.bad (kk := 1) rfl rfl sV_eq Fr.sV Fr.rf
  obtain ⟨t, ht, rfl⟩ := hp
  rw [M_in_t (by omega) ht, bR_s, if_neg (show ¬ (1 : Int32) = 0 by decide), if_neg (nI_pos (by omega)), if_pos (nI_lt ht (by omega)), show (4 : Int32) = nI 5 - 1 from by decide]
  by_cases hp2 : isIx 5 p2
  rotate_left
  · rw [T_isTrack_f hp2, bR_s, if_pos rfl, M_in_f (by decide) hp2, bR_s, if_pos rfl, stp_e]
    exact i.bad (kk := 2) rfl rfl sV_eq Fr.sV Fr.rf
  obtain ⟨u, hu, rfl⟩ := hp2
  obtain ⟨z, hz, ez⟩ := i.gy.dst t ht
  have hr : 5 * z + u < 15 := by omega
  have hlr := i.gy.mr.len hr
  have hlt := i.gy.yd.rows.len (r := 15 + t) (by omega)
  have ec : tyf_R1_count σ (15 + nI t) = some (nI (L (15 + t)).length) := by rw [il15, nI_add]; exact R1_count_v i.gy.yd.rows (by omega)
  rw [T_isTrack_t hu, bR_s, if_neg (show ¬ (1 : Int32) = 0 by decide), M_in_t (by decide) hu, bR_s, if_neg (show ¬ (1 : Int32) = 0 by decide), chk_in (by omega) (by decide), nI_clamp (n := t) (by omega), i.gy.dE, ez, T_rowOf_v, bR_s, ec, bR_s, stp_e, chk_in (by omega) (by decide), sV_a]
  have f00 : ∀ x, Fr [] [0] μ (sV (sV μ 0 0) 0 x) := fun x => (Fr.sV.tr Fr.sV).mono (by decide) (by decide)
  rcases i.gy.arr t ht with ⟨a1, a2⟩ | ⟨a1, a2, a3, a4⟩
  · rw [a1, a2, if_pos (show nI ([] : List Nat).length = 0 from rfl), if_neg (show ¬ nI 1 = 0 by decide), stp_e]
    exact i.bad (kk := 3) rfl rfl sV_eq (f00 3) Fr.rf
  have hpos : 0 < (L (15 + t)).length := List.length_pos_iff.mpr a1
  have room := R1_hasRoom_v (x := (L (15 + t)).length) i.gy.yd.rows (r := 5 * z + u) (by omega) (by omega)
  by_cases hroom : (L (5 * z + u)).length + (L (15 + t)).length ≤ 6
  rotate_left
  · rw [if_neg hroom] at room
    rw [if_neg (nI_ne0 hpos (by omega)), room, bR_s, if_pos rfl, a2, if_pos nI_0, chk_in (by omega) (by decide), il5, ez, nI_mul, nI_add, chk_in hr (by decide), chk_in (by omega) (by decide), nI_clamp (n := 5 * z + u) (by omega), i.gy.mr.c hr, a3, nI_add, il6, if_neg (nI_ge (by omega) (by omega)), stp_e]
    exact i.bad (kk := 3) rfl rfl sV_eq (f00 3) Fr.rf
  rw [if_pos hroom] at room
  rw [if_neg (nI_ne0 hpos (by omega)), room, bR_s, if_neg (show ¬ (1 : Int32) = 0 by decide), a2, if_pos nI_0, chk_in (by omega) (by decide), il5, ez, nI_mul, nI_add, chk_in hr (by decide), chk_in (by omega) (by decide), nI_clamp (n := 5 * z + u) (by omega), i.gy.mr.c hr, a3, nI_add, il6, if_pos (nI_le hroom (by omega)), stp_e, chk_in (by omega) (by decide), stp_e, il15, nI_add]
  have hgo := fun w hw => i.gt.trip (15 + t) (by omega) (by omega) w hw
  -- the class
  obtain ⟨σb, l1, l2, l3⟩ := T_unload_v i.gb i.gy.yd.rows i.gy.pl n30 (r := 15 + t) (by omega) hgo
  have yb : Yd σb L hh := ⟨by rw [l2.a 6, l2.a 7]; exact i.gy.yd.rows, by rw [l2.v 4]; exact i.gy.yd.hs, by rw [l2.a 10, l2.a 11, l2.a 12]; exact i.gy.yd.his⟩
  have hab : 15 + t ≠ 5 * z + u := by omega
  obtain ⟨σc, m1, m2, m3⟩ := moveLast_v yb (by have := i.hk; omega) (a := 15 + t) (b := 5 * z + u) (x := (L (15 + t)).length) (by omega) (by omega) hab (Nat.le_refl _) hroom
  have hD : dr L (15 + t) (L (15 + t)).length = L (15 + t) := by unfold dr; rw [Nat.sub_self]; rfl
  have Lb : mv L (15 + t) (5 * z + u) (L (15 + t)).length (5 * z + u) = L (5 * z + u) ++ L (15 + t) := by rw [mv_b, Nat.sub_self]; rfl
  have Lt : mv L (15 + t) (5 * z + u) (L (15 + t)).length (15 + t) = [] := by rw [mv_a hab, Nat.sub_self]; rfl
  rw [l1, bR_s, m1, bR_s, R1_count_v m3.rows (by omega), bR_s, Lb, List.length_append]
  have fc : Fr [16, 20, 6, 7, 10, 11, 12] [4] σ σc := (l2.tr m2).mono (by decide) (by decide)
  -- the reference
  have f1 : Fr [21] [0] μ (sW (sV (sV μ 0 0) 0 0) 21 (nI t) 1) := ((f00 0).tr Fr.sW).mono (by decide) (by decide)
  have e21 : (sW (sV (sV μ 0 0) 0 0) 21 (nI t) 1).1 21 = upd (μ.1 21) t 1 := by rw [sW_eq (by omega), sV_a, sV_a]
  generalize hμ1 : sW (sV (sV μ 0 0) 0 0) 21 (nI t) 1 = μ1 at f1 e21
  have g1 : Gb σ μ1 B n m := i.gb.fr (Fr.rf (as := []) (vs := [])) f1
  have km : ∀ w, kM μ1 w = kM μ w := fun w => by unfold kM; rw [f1.a 3]
  have kme : kM μ1 = kM μ := funext km
  have e0 : setL L (5 * z + u) (L (5 * z + u) ++ (L (15 + t)).take 0) = L := by
    rw [List.take_zero, List.append_nil]
    funext q
    by_cases hq : q = 5 * z + u
    · rw [hq, setL_eq]
    · rw [setL_ne hq]
  obtain ⟨υ, u1, u2, u3, u4, u5⟩ := M_arrive_lp (t := t) (z := z) (u := u) (L := L) g1 i.gy.pl n30 (by omega) hz hu (by rw [f1.a 20]; exact ez) (by rw [f1.a 22]; exact a3) (fun j x hx => by rw [f1.a 23]; exact a4 j x hx) hlt hroom (fun w hw => by
    obtain ⟨b, q1, q2, -⟩ := hgo w hw
    exact ⟨b, q1, by rw [f1.a 3]; exact q2⟩) (L (15 + t)).length 0 64 μ1 (by omega) (by omega) (by omega) Fr.rf (by rw [e0, f1.a 4, f1.a 5]; exact i.gy.mr) (by rw [List.take_zero, setW_nil]) (by rw [List.take_zero, setB_nil])
  have f5 : Fr [21, 1, 4, 5, 13] [0] μ υ := (f1.tr u2).mono (by decide) (by decide)
  have v13 : υ.1 13 = setB (μ.1 13) (kM μ) (L (15 + t)) 4 := by rw [u5, kme, f1.a 13]
  have v1 : υ.1 1 = setW (μ.1 1) (L (15 + t)) (nI (pcode (5 * z + u))) := by rw [u4, f1.a 1]
  have v21 : υ.1 21 = upd (μ.1 21) t 1 := by rw [u2.a 21, e21]
  have fgh : Fr [21, 1, 4, 5] [0] (gho μ (L (15 + t))) υ := ⟨fun a ha => by
    by_cases h13 : a = 13
    · rw [h13, v13, gho_13]
    · rw [gho_o h13]
      refine f5.1 a (fun h => ?_)
      simp only [List.mem_cons, List.not_mem_nil, or_false] at h ha
      omega, fun v hv => f5.2 v hv⟩
  have hF : ∀ b, ((μ.1 13 b = nI 3 ∨ μ.1 13 b = nI 4) ∧ υ.1 13 b = nI 4) ∨ υ.1 13 b = μ.1 13 b := by
    intro b
    rw [v13]
    rcases setB_or (f := μ.1 13) (key := kM μ) (D := L (15 + t)) (x := 4) b with ⟨w, h1, h2, e⟩ | ⟨h, e⟩
    · obtain ⟨b', q1, q2, q3⟩ := hgo w h1
      unfold kM at h2
      rw [q2, nI_clamp (by omega)] at h2
      subst h2
      exact Or.inl ⟨q3, e⟩
    · exact Or.inr e
  have h34 : ∀ b, b < m → (μ.1 13 b = nI 3 ∨ μ.1 13 b = nI 4) → (υ.1 13 b = nI 3 ∨ υ.1 13 b = nI 4) := by
    intro b _ h
    rcases hF b with ⟨-, e⟩ | e
    · exact Or.inr e
    · rw [e]; exact h
  have u1 : tyl_M_arrive_106 (fun σ0 x1 x2 x3 => chk (inb x1 40) (chk (inb ((nI 5 * (σ0.1 20 (x1).toNatClampNeg)) + x2) 15) (some ((σ0.1 4 (((nI 5 * (σ0.1 20 (x1).toNatClampNeg)) + x2)).toNatClampNeg), σ0)))) 64 μ1 (nI t) (nI u) 0 = some (nI ((L (5 * z + u)).length + (L (15 + t)).length), υ) := u1
  refine ⟨_, _, υ, rfl, u1, ⟨0, rfl, ?_, fun _ => rfl⟩, mv L (15 + t) (5 * z + u) (L (15 + t)).length, B, n, T, hh + 1, m, c, by have := i.hk; omega, ?_, i.gc.fr fc f5, ?_, ?_, ?_, i.gs.fr fc f5⟩
  · rw [u2.v 0, ← hμ1, sW_v, sV_eq]; rfl
  · refine ⟨?_, ?_, ?_, ?_, ?_, ?_, ?_, ?_, ?_, ?_, ?_, ?_, ?_, ?_, ?_⟩
    · exact m3
    · exact i.gy.pl.mv (by omega) (by omega) hab
    · refine i.gy.wh.mv i.gy.pl (by omega) (by omega) hab (fun w hw => ?_) (fun w hw => ?_)
      · rw [hD] at hw
        rw [v1, setW_t hw, if_pos hr]
      · rw [hD] at hw
        rw [v1, setW_f hw]
    · refine u3.congr (fun q hq => ?_)
      by_cases hqr : q = 5 * z + u
      · rw [hqr, Lb, setL_eq]
      · rw [mv_o (by omega) hqr, setL_ne hqr]
    · exact n30
    · rw [fc.v 0]; exact i.gy.sn
    · rw [f5.v 2]; exact i.gy.mn
    · exact T40
    · rw [fc.v 1]; exact i.gy.sT
    · rw [f5.v 6]; exact i.gy.mT
    · rw [fc.a 31, f5.a 20]; exact i.gy.dE
    · rw [f5.a 20]; exact i.gy.dst
    · intro q h1 h2
      rw [mv_o (by omega) (by omega)]
      exact i.gy.un q h1 h2
    · intro q hq
      rw [v21, f5.a 22, f5.a 23]
      by_cases hqt : q = t
      · rw [hqt, Lt, upd_eq]; exact Or.inl ⟨rfl, rfl⟩
      · rw [mv_o (by omega) (by omega), upd_ne hqt]
        exact i.gy.arr q hq
    · rw [v21]
      intro q h1 h2
      rw [upd_ne (by omega)]
      exact i.gy.arN q h1 h2
  · exact l3.fr m2 fgh
  · refine i.gk.st fc f5 (by rw [fc.a 23, f5.a 12]; exact i.gk.e23) (fun q hq => by rw [f5.a 12]; exact i.gk.op q hq) (fun q hq gq b' hb' ob => ?_)
    rw [f5.a 12] at ob
    have h9 := i.gk.opo q hq gq b' hb' ob
    rcases hF b' with ⟨a1, -⟩ | e
    · rw [h9.1] at a1; rcases a1 with a1 | a1 <;> exact absurd a1 (by decide)
    · rw [e]; exact h9
  · constructor
    · rw [f5.a 3]
      intro q h1 h2 w hw
      by_cases hqt : q = 15 + t
      · rw [hqt, Lt] at hw; exact absurd hw List.not_mem_nil
      · rw [mv_o hqt (by omega)] at hw
        obtain ⟨b, q1, q2, q3⟩ := i.gt.trip q h1 h2 w hw
        exact ⟨b, q1, q2, h34 b q1 q3⟩
    · exact Nat.le_trans i.gt.cnt (cnt34_le m h34)
