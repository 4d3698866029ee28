/-! ===== the pure part: shunt, wash, follow, mend, setLines ===== -/
theorem setL_comm_ne {L : Nat → List Nat} {r q : Nat} {x y : List Nat} (h : q ≠ r) : setL L r x q = L q := setL_ne h
theorem M_shunt_lp {μ0 : tyS} {L : Nat → List Nat} {D : List Nat} {y t2 a x : Nat} {p2 : Int32} {wh0 : Nat → Int32} (hy : y < 3) (ht2 : t2 < 5) (ha : a < 15) (hab : a ≠ 5 * y + t2) (hla : (L a).length + x ≤ 6) (hDl : D.length = x) (hD30 : ∀ w ∈ D, w < 30) (hl : (L (5 * y + t2)).length + x ≤ 6) : ∀ (d j f : Nat) (μ : tyS), x - j = d → j ≤ x → d < f → Fr [1, 4, 5] [] μ0 μ → Rows (μ.1 4) (μ.1 5) 15 (setL L (5 * y + t2) (L (5 * y + t2) ++ D.take j)) → (∀ i w, D[i]? = some w → μ.1 5 (6 * a + ((L a).length + i)) = nI w) → μ.1 1 = setW wh0 (D.take j) (nI (pcode (5 * y + t2))) → ∃ υ, tyl_M_shunt_121 (fun σ0 x1 x2 x3 x4 x5 x6 x7 => chk (inb ((5 * x1) + x3) 15) (some ((σ0.1 4 (((5 * x1) + x3)).toNatClampNeg), σ0))) f μ (nI y) p2 (nI t2) (nI x) 1 (nI a) (nI j) = some (nI ((L (5 * y + t2)).length + x), υ) ∧ Fr [1, 4, 5] [] μ0 υ ∧ Rows (υ.1 4) (υ.1 5) 15 (setL L (5 * y + t2) (L (5 * y + t2) ++ D)) ∧ υ.1 1 = setW wh0 D (nI (pcode (5 * y + t2))) := by
  intro d
  have hr : 5 * y + t2 < 15 := by omega
  induction d with
  | zero =>
    intro j f μ hd hj hf fr hR hE hW
    obtain ⟨f, rfl⟩ : ∃ g, f = g + 1 := ⟨f - 1, by omega⟩
    have hjx : j = D.length := by omega
    subst hjx
    rw [List.take_length] at hR hW
    refine ⟨μ, ?_, fr, hR, hW⟩
    show tyb_M_shunt_121 _ _ _ _ _ _ _ _ _ _ = _
    unfold tyb_M_shunt_121
    rw [if_pos (nI_le (by omega) (by omega))]
    show chk (inb ((5 * nI y) + nI t2) 15) (some ((μ.1 4 (((5 * nI y) + nI t2)).toNatClampNeg), μ)) = _
    rw [il5, nI_mul, nI_add, chk_in hr (by decide), nI_clamp (by omega), hR.c hr, setL_eq, List.length_append, hDl]
  | succ d ih =>
    intro j f μ hd hj hf fr hR hE hW
    obtain ⟨f, rfl⟩ : ∃ g, f = g + 1 := ⟨f - 1, by omega⟩
    obtain ⟨w, hw⟩ := lt_get? (l := D) (i := j) (by omega)
    have hw30 := hD30 w (get?_mem hw)
    obtain ⟨υ, g1, g2, g3, g4, g5⟩ := puts_app hR hy ht2 hw30 hw (by omega)
    have hca := hR.c ha
    rw [setL_ne hab] at hca
    have e : tyl_M_shunt_121 (fun σ0 x1 x2 x3 x4 x5 x6 x7 => chk (inb ((5 * x1) + x3) 15) (some ((σ0.1 4 (((5 * x1) + x3)).toNatClampNeg), σ0))) (f + 1) μ (nI y) p2 (nI t2) (nI x) 1 (nI a) (nI j) = tyl_M_shunt_121 (fun σ0 x1 x2 x3 x4 x5 x6 x7 => chk (inb ((5 * x1) + x3) 15) (some ((σ0.1 4 (((5 * x1) + x3)).toNatClampNeg), σ0))) f υ (nI y) p2 (nI t2) (nI x) 1 (nI a) (nI (j + 1)) := by
      show tyb_M_shunt_121 _ _ _ _ _ _ _ _ _ _ = _
      unfold tyb_M_shunt_121
      rw [if_neg (nI_ge (by omega) (by omega)), chk_in ha (by decide), nI_clamp (n := a) (by omega), hca, il6, nI_mul, nI_add, nI_add, chk_in (by omega) (by decide), nI_clamp (by omega), Nat.add_assoc, hE j w hw, g1, bR_s, ← nI_add j 1]
      rfl
    rw [e]
    refine ih (j + 1) f υ (by omega) (by omega) (by omega) ((fr.tr g2).mono (by decide) (by decide)) g3 (fun i v hv => ?_) ?_
    · have := get?_lt hv
      rw [g5 a (by omega) _ (by omega)]
      exact hE i v hv
    · rw [g4, hW, setW_snoc, take_snoc hw]
theorem arg16 {p : Int32} (h1 : ¬ p < 1) (h2 : p ≤ 6) : ∃ x, 1 ≤ x ∧ x ≤ 6 ∧ p = nI x := by
  have h0 : ¬ p < 0 := fun h => h1 (Int32.lt_trans h (by decide))
  obtain ⟨x, hx, rfl⟩ := nI_of h0
  refine ⟨x, ?_, (nI_leI hx (by decide)).mp h2, rfl⟩
  have := mt (nI_ltI hx (b := 1) (by decide)).mpr h1
  omega
theorem M_in_16 {σ : tyS} {p : Int32} : tyf_M_in σ p 1 6 = some (if p < 1 then 0 else if 6 < p then 0 else 1) := by
  unfold tyf_M_in
  by_cases h1 : p < 1
  · rw [if_pos h1, if_pos h1]
  · rw [if_neg h1, if_neg h1]
    by_cases h2 : 6 < p
    · rw [if_pos h2, if_pos h2]
    · rw [if_neg h2, if_neg h2]
/-- the rows' part after wagons went from a row to another, nothing else changed -/
theorem Gy.mv {σ μ σ' μ' : tyS} {L : Nat → List Nat} {n T h a b x : Nat} (g : Gy σ μ L n T h) (f : Fr [6, 7, 10, 11, 12] [4] σ σ') (f2 : Fr [1, 4, 5] [0] μ μ') (ha : a < 15) (hb : b < 15) (hab : a ≠ b) (y : Yd σ' (mv L a b x) (h + 1)) (hR : Rows (μ'.1 4) (μ'.1 5) 15 (mv L a b x)) (hW : μ'.1 1 = setW (μ.1 1) (dr L a x) (nI (pcode b))) : Gy σ' μ' (mv L a b x) n T (h + 1) := by
  refine ⟨?_, ?_, ?_, ?_, ?_, ?_, ?_, ?_, ?_, ?_, ?_, ?_, ?_, ?_, ?_⟩
  · exact y
  · exact g.pl.mv (by omega) (by omega) hab
  · refine g.wh.mv g.pl (by omega) (by omega) hab (fun w hw => ?_) (fun w hw => ?_)
    · rw [hW, setW_t hw, if_pos hb]
    · rw [hW, setW_f hw]
  · exact hR
  · exact g.n30
  · rw [f.v 0]; exact g.sn
  · rw [f2.v 2]; exact g.mn
  · exact g.T40
  · rw [f.v 1]; exact g.sT
  · rw [f2.v 6]; exact g.mT
  · rw [f.a 31, f2.a 20]; exact g.dE
  · rw [f2.a 20]; exact g.dst
  · intro r h1 h2
    rw [mv_o (by omega) (by omega)]
    exact g.un r h1 h2
  · intro t ht
    rw [mv_o (by omega) (by omega), f2.a 21, f2.a 22, f2.a 23]
    exact g.arr t ht
  · rw [f2.a 21]; exact g.arN
theorem dr_len {L : Nat → List Nat} {a x : Nat} (h : x ≤ (L a).length) : (dr L a x).length = x := by
  unfold dr; rw [List.length_drop]; omega
theorem op_shunt {k : Nat} {σ μ : tyS} (h : Inv k σ μ) (hk : k < 512) (p1 p2 p3 p4 : Int32) : ∃ res v μ', tyf_T_shunt σ p1 p2 p3 p4 = some res ∧ tyf_M_shunt μ p1 p2 p3 p4 = some (v, μ') ∧ Ag [1, 2] res v μ' ∧ Inv (k + 1) res.2.2 μ' := by
  obtain ⟨L, B, n, T, hh, m, c, i⟩ := h
  have n30 := i.gy.n30
  unfold tyf_T_shunt tyf_M_shunt
  by_cases hp : isIx 3 p1 ∧ isIx 5 p2
  rotate_left
  · rw [T_requireTrack_f hp, bX_1, M_isTrack_f hp, bR_s, if_pos rfl, stp_e]
    exact i.bad (kk := 1) rfl rfl sV_eq Fr.sV Fr.rf
  by_cases hp3 : isIx 3 p1 ∧ isIx 5 p3
  rotate_left
  · obtain ⟨⟨y, hy, rfl⟩, ⟨t, ht, rfl⟩⟩ := hp
    rw [T_requireTrack_t hy ht, bX_r, T_requireTrack_f hp3, bX_1, M_isTrack_t hy ht, bR_s, if_neg (by decide), M_isTrack_f hp3, bR_s, if_pos rfl, stp_e]
    exact i.bad (kk := 1) rfl rfl sV_eq Fr.sV Fr.rf
  obtain ⟨⟨y, hy, rfl⟩, ⟨t, ht, rfl⟩⟩ := hp
  obtain ⟨-, ⟨u, hu, rfl⟩⟩ := hp3
  rw [T_requireTrack_t hy ht, bX_r, T_requireTrack_t hy hu, bX_r, M_isTrack_t hy ht, bR_s, if_neg (show ¬ (1 : Int32) = 0 by decide), M_isTrack_t hy hu, bR_s, if_neg (show ¬ (1 : Int32) = 0 by decide)]
  by_cases hpp : nI t = nI u
  · rw [if_pos hpp, if_pos hpp, stp_e]
    exact i.bad (kk := 1) rfl rfl sV_eq Fr.sV Fr.rf
  rw [if_neg hpp, if_neg hpp, M_in_16, bR_s]
  by_cases h1 : p4 < 1
  · rw [if_pos h1, if_pos h1, if_pos rfl, stp_e]
    exact i.bad (kk := 1) rfl rfl sV_eq Fr.sV Fr.rf
  rw [if_neg h1, if_neg h1]
  by_cases h6 : p4 ≤ 6
  rotate_left
  · rw [if_neg h6, if_pos (Int32.not_le.mp h6), if_pos rfl, stp_e]
    exact i.bad (kk := 1) rfl rfl sV_eq Fr.sV Fr.rf
  rw [if_pos h6, if_neg (Int32.not_lt.mpr h6), if_neg (show ¬ (1 : Int32) = 0 by decide)]
  obtain ⟨x, hx1, hx6, rfl⟩ := arg16 h1 h6
  have htu : t ≠ u := fun e => hpp (by rw [e])
  have ha : 5 * y + t < 15 := by omega
  have hb : 5 * y + u < 15 := by omega
  have hab : 5 * y + t ≠ 5 * y + u := by omega
  have la := i.gy.mr.len ha
  have lb := i.gy.mr.len hb
  rw [T_rowOf_v, bR_s, T_rowOf_v, bR_s, R1_count_v i.gy.yd.rows (by omega), bR_s, il5, nI_mul, nI_add, nI_add, chk_in ha (by decide), nI_clamp (by omega), i.gy.mr.c ha]
  by_cases hc : (L (5 * y + t)).length < x
  · rw [if_pos (nI_lt hc (by omega)), if_pos (nI_lt hc (by omega)), stp_e]
    exact i.bad (kk := 2) rfl rfl sV_eq Fr.sV Fr.rf
  have room := R1_hasRoom_v (x := x) i.gy.yd.rows (r := 5 * y + u) (by omega) (by omega)
  rw [if_neg (nI_nlt (by omega) (by omega)), if_neg (nI_nlt (by omega) (by omega)), room, bR_s, chk_in hb (by decide), nI_clamp (by omega), i.gy.mr.c hb, nI_add, il6]
  by_cases hc2 : (L (5 * y + u)).length + x ≤ 6
  rotate_left
  · rw [if_neg hc2, if_pos rfl, if_neg (nI_ge (by omega) (by omega)), stp_e]
    exact i.bad (kk := 2) rfl rfl sV_eq Fr.sV Fr.rf
  rw [if_pos hc2, if_neg (show ¬ (1 : Int32) = 0 by decide), if_pos (nI_le hc2 (by omega)), stp_e, chk_in ha (by decide), chk_in ha (by decide), sV_a, i.gy.mr.c ha, nI_sub (by omega), stp_e]
  obtain ⟨τ, t1, t2, t3⟩ := moveLast_v i.gy.yd (by have := i.hk; omega) (a := 5 * y + t) (b := 5 * y + u) (x := x) (by omega) (by omega) hab (by omega) hc2
  rw [t1, bR_s, R1_count_v t3.rows (by omega), bR_s]
  have f1 : Fr [4] [0] μ (sW (sV μ 0 0) 4 (nI (5 * y + t)) (nI ((L (5 * y + t)).length - x))) := (Fr.sV.tr Fr.sW).mono (by decide) (by decide)
  have hD := dr_len (L := L) (a := 5 * y + t) (x := x) (by omega)
  have hcut := i.gy.mr.cut ha (y := (L (5 * y + t)).length - x) (by omega)
  have hna := (i.gy.pl.1 (5 * y + t) (by omega))
  obtain ⟨υ, u1, u2, u3, u4⟩ := M_shunt_lp (μ0 := sW (sV μ 0 0) 4 (nI (5 * y + t)) (nI ((L (5 * y + t)).length - x))) (L := setL L (5 * y + t) ((L (5 * y + t)).take ((L (5 * y + t)).length - x))) (D := dr L (5 * y + t) x) (y := y) (t2 := u) (a := 5 * y + t) (x := x) (p2 := nI t) (wh0 := μ.1 1) hy hu ha hab (by rw [setL_eq, List.length_take]; omega) hD (fun w hw => by have := hna.2 w (dr_sub hw); omega) (by rw [setL_ne (Ne.symm hab)]; exact hc2) x 0 64 _ (by omega) (by omega) (by omega) Fr.rf (by
      rw [List.take_zero, List.append_nil]
      have e : setL (setL L (5 * y + t) ((L (5 * y + t)).take ((L (5 * y + t)).length - x))) (5 * y + u) (setL L (5 * y + t) ((L (5 * y + t)).take ((L (5 * y + t)).length - x)) (5 * y + u)) = setL L (5 * y + t) ((L (5 * y + t)).take ((L (5 * y + t)).length - x)) := by
        funext q
        by_cases hq : q = 5 * y + u
        · subst hq; rw [setL_eq]
        · rw [setL_ne hq]
      rw [e, sW_eq (by omega), sW_ne (by decide), sV_a]
      exact hcut) (fun j w hw => by
      unfold dr at hw
      rw [List.getElem?_drop] at hw
      rw [sW_ne (by decide), sV_a, setL_eq, List.length_take, Nat.min_eq_left (by omega)]
      exact i.gy.mr.e ha hw) (by rw [sW_ne (by decide), sV_a, List.take_zero, setW_nil])
  rw [setL_ne (Ne.symm hab)] at u1 u3
  have hlen : (mv L (5 * y + t) (5 * y + u) x (5 * y + u)).length = (L (5 * y + u)).length + x := by
    rw [mv_b, List.length_append]; unfold dr at hD; rw [hD]
  rw [hlen]
  have fm : Fr [1, 4, 5] [0] μ υ := (f1.tr u2).mono (by decide) (by decide)
  refine ⟨_, _, υ, rfl, u1, ⟨0, rfl, ?_, fun _ => rfl⟩, mv L (5 * y + t) (5 * y + u) x, B, n, T, hh + 1, m, c, ?_⟩
  · rw [u2.v 0, sW_v, sV_eq]; rfl
  · refine ⟨by have := i.hk; omega, i.gy.mv t2 fm ha hb hab t3 u3 u4, i.gc.fr t2 fm, i.gb.fr t2 fm, i.gk.fr t2 fm, ?_, i.gs.fr t2 fm⟩
    constructor
    · intro r h1 h2 w hw
      rw [mv_o (by omega) (by omega)] at hw
      rw [fm.a 3, fm.a 13]
      exact i.gt.trip r h1 h2 w hw
    · rw [fm.a 13]; exact i.gt.cnt
