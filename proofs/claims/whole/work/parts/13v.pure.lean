/-! ===== the pure part: depart, its end ===== -/
theorem Gb.stG {σ μ σ' μ' : tyS} {B : Nat → List Nat} {n m : Nat} {as vs bs us : List Nat} (g : Gb σ μ B n m) (f : Fr as vs σ σ') (f2 : Fr bs us μ μ') (hact : ∀ b, (4 ≤ μ'.1 13 b ↔ 4 ≤ μ.1 13 b)) (e16 : σ'.1 16 = μ'.1 13) (d1 : dis as [13, 14, 15, 17, 18, 19, 20] = true := by decide) (d2 : dis vs [5] = true := by decide) (d3 : dis bs [3, 14, 15, 16, 17, 18, 19] = true := by decide) (d4 : dis us [5] = true := by decide) : Gb σ' μ' B n m := by
  refine ⟨?_, ?_, ?_, ?_, ?_, ?_, ?_, ?_, ?_, ?_, ?_, ?_, ?_, ?_, ?_, ?_⟩
  · rw [f.vd d2 (a := 5) (by decide)]; exact g.sm
  · rw [f2.vd d4 (a := 5) (by decide)]; exact g.mm
  · exact g.m40
  · rw [f.ad d1 (a := 13) (by decide), f2.ad d3 (a := 15) (by decide)]; exact g.e13
  · rw [f.ad d1 (a := 14) (by decide), f2.ad d3 (a := 16) (by decide)]; exact g.e14
  · rw [f.ad d1 (a := 15) (by decide), f2.ad d3 (a := 14) (by decide)]; exact g.e15
  · exact e16
  · rw [f.ad d1 (a := 17) (by decide), f2.ad d3 (a := 17) (by decide)]; exact g.e17
  · rw [f.ad d1 (a := 18) (by decide), f2.ad d3 (a := 18) (by decide)]; exact g.e18
  · rw [f.ad d1 (a := 19) (by decide), f2.ad d3 (a := 19) (by decide)]; exact g.e19
  · rw [f2.ad d3 (a := 14) (by decide)]; exact g.gr
  · rw [f2.ad d3 (a := 18) (by decide), f2.ad d3 (a := 19) (by decide)]; exact g.bl
  · rw [f2.ad d3 (a := 18) (by decide)]; exact g.blN
  · rw [f.ad d1 (a := 20) (by decide), f2.ad d3 (a := 3) (by decide)]
    intro w hw
    rcases g.bk w hw with h | ⟨b', h1, h2, h3, h4⟩
    · exact Or.inl h
    · refine Or.inr ⟨b', h1, h2, h3, ?_⟩
      rw [hact b']
      exact h4
  · rw [f2.ad d3 (a := 3) (by decide)]
    intro b' hb' h
    rw [hact b'] at h
    exact g.act b' hb' h
  · rw [f.ad d1 (a := 20) (by decide)]; exact g.bkN
theorem cnt34_succ {f f2 : Nat → Int32} : ∀ m, (∀ b, b < m → (f b = nI 3 ∨ f b = nI 4) → (f2 b = nI 3 ∨ f2 b = nI 4)) → (∃ b, b < m ∧ ¬ (f b = nI 3 ∨ f b = nI 4) ∧ (f2 b = nI 3 ∨ f2 b = nI 4)) → cnt34 f m + 1 ≤ cnt34 f2 m := by
  intro m
  induction m with
  | zero => rintro _ ⟨b, hb, -⟩; exact absurd hb (Nat.not_lt_zero _)
  | succ m ih =>
    rintro h ⟨b, hb, h3, h4⟩
    have h1 := cnt34_le m (fun b hb => h b (by omega))
    have h2 := h m (by omega)
    show cnt34 f m + _ + 1 ≤ cnt34 f2 m + _
    by_cases hbm : b = m
    · subst hbm
      rw [if_neg h3, if_pos h4]; omega
    · have h5 := ih (fun b hb => h b (by omega)) ⟨b, by omega, h3, h4⟩
      by_cases h6 : f m = nI 3 ∨ f m = nI 4
      · rw [if_pos h6, if_pos (h2 h6)]; omega
      · rw [if_neg h6]; omega
theorem cnt34_m {f : Nat → Int32} : ∀ m, cnt34 f m ≤ m := by
  intro m
  induction m with
  | zero => exact Nat.le_refl _
  | succ m ih =>
    show cnt34 f m + _ ≤ m + 1
    by_cases h : f m = nI 3 ∨ f m = nI 4
    · rw [if_pos h]; omega
    · rw [if_neg h]; omega
theorem Rows.congr {c e : Nat → Int32} {N : Nat} {L L2 : Nat → List Nat} (h : Rows c e N L) (h2 : ∀ q, q < N → L2 q = L q) : Rows c e N L2 := by
  intro q hq
  rw [h2 q hq]
  exact h q hq
theorem op_depart {k : Nat} {σ μ : tyS} (h : Inv k σ μ) (hk : k < 512) (p1 p2 p3 : Int32) : ∃ res v μ', tyf_T_depart σ p1 p2 p3 = some res ∧ tyf_M_depart μ p1 p2 p3 = some (v, μ') ∧ Ag [1, 2] res v μ' ∧ Inv (k + 1) res.2.2 μ' := by
  obtain ⟨L, B, n, T, hh, m, c, i⟩ := h
  have n30 := i.gy.n30
  have m40 := i.gb.m40
  have T40 := i.gy.T40
  unfold tyf_T_depart tyf_M_depart
  by_cases hp : isIx 3 p1 ∧ isIx 5 p2
  rotate_left
  · rw [T_requireTrack_f hp, bX_1, M_isTrack_f hp, bR_s, if_pos rfl, stp_e]
    exact i.bad (kk := 1) rfl rfl sV_eq Fr.sV Fr.rf
  obtain ⟨⟨y, hy, rfl⟩, ⟨t, ht, rfl⟩⟩ := hp
  rw [T_requireTrack_t hy ht, bX_r, M_isTrack_t hy ht, bR_s, if_neg (show ¬ (1 : Int32) = 0 by decide)]
  by_cases hp3 : isIx 3 p3
  rotate_left
  · rw [T_requireYard_f hp3, bX_1, M_isYard_f hp3, bR_s, if_pos rfl, stp_e]
    exact i.bad (kk := 1) rfl rfl sV_eq Fr.sV Fr.rf
  obtain ⟨z, hz, rfl⟩ := hp3
  rw [T_requireYard_t hz, bX_r, M_isYard_t hz, bR_s, if_neg (show ¬ (1 : Int32) = 0 by decide)]
  by_cases hyz : nI y = nI z
  · rw [if_pos hyz, if_pos hyz, stp_e]
    exact i.bad (kk := 1) rfl rfl sV_eq Fr.sV Fr.rf
  have hr : 5 * y + t < 15 := by omega
  have ev := M_canDepart_v i.gb i.gy.mr i.gy.wh i.gy.pl n30 hy ht
  have et := T_canDepart_v (r := 5 * y + t) i.gb i.gy.yd.rows i.gy.pl n30 (by omega)
  generalize hre : 5 * y + t = r at hr ev et
  have hl6 := i.gy.mr.len hr
  by_cases hc : (L r).all (gW σ μ L B r) = true ∧ L r ≠ []
  rotate_left
  · rw [if_neg hc] at ev et
    rw [if_neg hyz, if_neg hyz, T_rowOf_v, bR_s, hre, i.gy.sT, ev, bR_s, et, bR_s, if_pos rfl, if_pos rfl, stp_e]
    refine i.bad (kk := 2) (cc := 2) (σ' := σ) (v := 0) ?_ rfl sV_eq Fr.sV Fr.rf
    by_cases h40 : 40 ≤ nI T
    · rw [if_pos h40]
    · rw [if_neg h40]
  rw [if_pos hc] at ev et
  obtain ⟨hall, hne⟩ := hc
  have hgo : ∀ w ∈ L r, ∃ b, b < m ∧ σ.1 20 w = nI b ∧ μ.1 3 w = nI b ∧ μ.1 13 b = 2 := by
    intro w hw
    have hwn := (i.gy.pl.1 r (by omega)).2 w hw
    have hg := List.all_eq_true.mp hall w hw
    unfold gW at hg
    rw [Bool.and_eq_true, Bool.and_eq_true] at hg
    obtain ⟨g1, g2, -⟩ := hg
    have g1 := of_decide_eq_true g1
    have g2 := of_decide_eq_true g2
    rcases i.gb.bk w hwn with ⟨-, e⟩ | ⟨b, hb, e1, -, e3⟩
    · exact absurd e g1
    · rcases e3 with ⟨-, e⟩ | ⟨-, e⟩
      · exact absurd e g1
      · rw [e, nI_clamp (by omega)] at g2
        exact ⟨b, hb, e, e1, g2⟩
  obtain ⟨w0, hw0⟩ := List.exists_mem_of_ne_nil _ hne
  obtain ⟨b0, hb0, -, e0, s0⟩ := hgo w0 hw0
  have kof : ∀ w ∈ L r, ∀ b, kM μ w = b → b < m ∧ μ.1 13 b = 2 := by
    intro w hw b hb
    obtain ⟨b', h1, -, h2, h3⟩ := hgo w hw
    unfold kM at hb
    rw [h2, nI_clamp (by omega)] at hb
    subst hb
    exact ⟨h1, h3⟩
  have hT : T < 40 := by
    have h1 := i.gt.cnt
    have h2 : cnt34 (μ.1 13) m + 1 ≤ cnt34 (upd (μ.1 13) b0 3) m := cnt34_succ m (fun b hb h => upd34 (by rw [s0]; decide) (by rw [s0]; decide) b h) ⟨b0, hb0, by rw [s0]; decide, by rw [upd_eq]; exact Or.inl rfl⟩
    have h3 := cnt34_m (f := upd (μ.1 13) b0 3) m
    omega
  rw [if_neg hyz, if_neg hyz, T_rowOf_v, bR_s, hre, i.gy.sT, ev, bR_s, et, bR_s, il40, if_neg (show ¬ (1 : Int32) = 0 by decide), if_neg (show ¬ (1 : Int32) = 0 by decide), if_neg (nI_ge hT (by decide)), stp_e, il1, nI_add, chk_in hT (by decide), stp_e, stp_e, il5, nI_mul, nI_add, hre]
  -- the class
  have fa : Fr [31] [1] σ (sW (sV σ 1 (nI (T + 1))) 31 (nI T) (nI z)) := (Fr.sV.tr Fr.sW).mono (by decide) (by decide)
  generalize hσa : sW (sV σ 1 (nI (T + 1))) 31 (nI T) (nI z) = σa at fa ⊢
  have ga : Gb σa μ B n m := i.gb.fr fa (Fr.rf (as := []) (vs := []))
  have Ra : Rows (σa.1 6) (σa.1 7) 55 L := by rw [fa.a 6, fa.a 7]; exact i.gy.yd.rows
  obtain ⟨σb, l1, l2, l3, l4⟩ := T_load_v ga Ra i.gy.pl n30 (r := r) (by omega) (fun w hw => by
    obtain ⟨b, h1, h2, h3, -⟩ := hgo w hw
    exact ⟨b, h1, by rw [fa.a 20]; exact h2, h3⟩)
  have fb : Fr [31, 16, 29] [1] σ σb := (fa.tr l2).mono (by decide) (by decide)
  have yb : Yd σb L hh := ⟨by rw [fb.a 6, fb.a 7]; exact i.gy.yd.rows, by rw [fb.v 4]; exact i.gy.yd.hs, by rw [fb.a 10, fb.a 11, fb.a 12]; exact i.gy.yd.his⟩
  have eun : L (15 + T) = [] := i.gy.un (15 + T) (by omega) (by omega)
  have hab : r ≠ 15 + T := by omega
  obtain ⟨σc, m1, m2, m3⟩ := moveLast_v yb (by have := i.hk; omega) (a := r) (b := 15 + T) (x := (L r).length) (by omega) (by omega) hab (Nat.le_refl _) (by rw [eun]; simpa using hl6)
  have fc : Fr [31, 16, 29, 6, 7, 10, 11, 12] [1, 4] σ σc := (fb.tr m2).mono (by decide) (by decide)
  rw [l1, bR_s, R1_count_v yb.rows (by omega), bR_s, il15, nI_add, m1, bR_s]
  -- the reference
  have f0 : Fr [] [0] μ (sV μ 0 0) := Fr.sV
  have g0 : Gb σ (sV μ 0 0) B n m := i.gb.fr (Fr.rf (as := []) (vs := [])) f0
  obtain ⟨υ, u1, u2, u3, u4, u5, u6, u7⟩ := M_depart_lp (K := (fun σ0 x1 x2 x3 x4 x5 =>
  chk (inb x4 15) (
  chk (inb (σ0.2 6) 40) (stp (sW σ0 22 (σ0.2 6) (σ0.1 4 (x4).toNatClampNeg)) fun σ28 =>
  chk (inb x4 15) (stp (sW σ28 4 x4 0) fun σ30 =>
  chk (inb (σ30.2 6) 40) (stp (sW σ30 20 (σ30.2 6) x3) fun σ32 =>
  stp (sV σ32 6 ((σ32.2 6) + 1)) fun σ33 =>
  some (((σ33.2 6) - 1), σ33))))))) (T := T) (p1 := nI y) (p2 := nI t) (p3 := nI z) g0 i.gy.mr i.gy.pl n30 hr hT (by rw [f0.v 6]; exact i.gy.mT) (fun w hw => by
    obtain ⟨b, h1, -, h3, -⟩ := hgo w hw
    exact ⟨b, h1, h3⟩) (L r).length 0 64 (sV μ 0 0) (by omega) (by omega) (by omega) Fr.rf (by rw [List.take_zero, setW_nil]) (by rw [List.take_zero, setF_nil]) (by rw [List.take_zero, setB_nil]) (fun i x hx => by simp at hx) (fun q _ => rfl)
  have eυ6 : υ.2 6 = nI T := by rw [u2.v 6, f0.v 6]; exact i.gy.mT
  have eK : tyl_M_depart_61 (fun σ0 x1 x2 x3 x4 x5 => chk (inb x4 15) (chk (inb (σ0.2 6) 40) (stp (sW σ0 22 (σ0.2 6) (σ0.1 4 (x4).toNatClampNeg)) fun σ28 => chk (inb x4 15) (stp (sW σ28 4 x4 0) fun σ30 => chk (inb (σ30.2 6) 40) (stp (sW σ30 20 (σ30.2 6) x3) fun σ32 => stp (sV σ32 6 ((σ32.2 6) + 1)) fun σ33 => some (((σ33.2 6) - 1), σ33)))))) 64 (sV μ 0 0) (nI y) (nI t) (nI z) (nI r) 0 = some (nI T, sV (sW (sW (sW υ 22 (nI T) (nI (L r).length)) 4 (nI r) 0) 20 (nI T) (nI z)) 6 (nI (T + 1))) := by
    refine u1.trans ?_
    show chk (inb (nI r) 15) (chk (inb (υ.2 6) 40) (stp (sW υ 22 (υ.2 6) (υ.1 4 (nI r).toNatClampNeg)) fun σ28 => chk (inb (nI r) 15) (stp (sW σ28 4 (nI r) 0) fun σ30 => chk (inb (σ30.2 6) 40) (stp (sW σ30 20 (σ30.2 6) (nI z)) fun σ32 => stp (sV σ32 6 ((σ32.2 6) + 1)) fun σ33 => some (((σ33.2 6) - 1), σ33))))) = _
    rw [chk_in hr (by decide), eυ6, chk_in hT (by decide), stp_e, chk_in hr (by decide), stp_e, sW_v, sW_v, eυ6, chk_in hT (by decide), stp_e, sW_v, sW_v, sW_v, eυ6, stp_e, sV_eq, il1, nI_add, nI_sub (by omega), Nat.add_sub_cancel, nI_clamp (by omega), u2.a 4, sV_a, i.gy.mr.c hr]
  have hD : dr L r (L r).length = L r := by unfold dr; rw [Nat.sub_self]; rfl
  have f4 : Fr [22, 4, 20] [6] υ (sV (sW (sW (sW υ 22 (nI T) (nI (L r).length)) 4 (nI r) 0) 20 (nI T) (nI z)) 6 (nI (T + 1))) := (((Fr.sW.tr Fr.sW).tr Fr.sW).tr Fr.sV).mono (by decide) (by decide)
  generalize hυ' : sV (sW (sW (sW υ 22 (nI T) (nI (L r).length)) 4 (nI r) 0) 20 (nI T) (nI z)) 6 (nI (T + 1)) = υ' at eK f4
  have f5 : Fr [1, 2, 13, 23, 22, 4, 20] [0, 6] μ υ' := ((f0.tr u2).tr f4).mono (by decide) (by decide)
  have v4 : υ'.1 4 = upd (μ.1 4) r (nI 0) := by rw [← hυ', sV_a, sW_ne (by decide), sW_eq (by omega), sW_ne (by decide), u2.a 4]; rfl
  have v20 : υ'.1 20 = upd (μ.1 20) T (nI z) := by rw [← hυ', sV_a, sW_eq (by omega), sW_ne (by decide), sW_ne (by decide), u2.a 20]; rfl
  have v22 : υ'.1 22 = upd (μ.1 22) T (nI (L r).length) := by rw [← hυ', sV_a, sW_ne (by decide), sW_ne (by decide), sW_eq (by omega), u2.a 22]; rfl
  have v23 : υ'.1 23 = υ.1 23 := f4.a 23
  have v1 : υ'.1 1 = setW (μ.1 1) (L r) nM := by rw [f4.a 1, u3]; rfl
  have v2 : υ'.1 2 = setF (μ.1 2) (L r) (vM μ) := by rw [f4.a 2, u4]; rfl
  have v13 : υ'.1 13 = setB (μ.1 13) (kM μ) (L r) 3 := by rw [f4.a 13, u5]; rfl
  have s31 : σc.1 31 = upd (σ.1 31) T (nI z) := by rw [m2.a 31, l2.a 31, ← hσa, sW_eq (by omega), sV_a]
  have s16 : σc.1 16 = setB (μ.1 13) (kM μ) (L r) 3 := by rw [m2.a 16, l3, fa.a 16, i.gb.e16]
  have s29 : σc.1 29 = setF (σ.1 29) (L r) (vM μ) := by rw [m2.a 29, l4, fa.a 29]
  have Lb : mv L r (15 + T) (L r).length (15 + T) = L r := by rw [mv_b, eun, Nat.sub_self]; rfl
  have Lr : mv L r (15 + T) (L r).length r = [] := by rw [mv_a hab, Nat.sub_self]; rfl
  have hF : ∀ b, (μ.1 13 b = 2 ∧ υ'.1 13 b = 3) ∨ υ'.1 13 b = μ.1 13 b := by
    intro b
    rw [v13]
    rcases setB_or (f := μ.1 13) (key := kM μ) (D := L r) (x := 3) b with ⟨w, h1, h2, e⟩ | ⟨h, e⟩
    · exact Or.inl ⟨(kof w h1 b h2).2, e⟩
    · exact Or.inr e
  have h34 : ∀ b, b < m → (μ.1 13 b = nI 3 ∨ μ.1 13 b = nI 4) → (υ'.1 13 b = nI 3 ∨ υ'.1 13 b = nI 4) := by
    intro b _ h
    rcases hF b with ⟨-, e⟩ | e
    · exact Or.inl e
    · rw [e]; exact h
  have kb0 : kM μ w0 = b0 := by unfold kM; rw [e0, nI_clamp (by omega)]
  have hb3 : υ'.1 13 b0 = 3 := by rw [v13, ← kb0]; exact setB_t hw0
  refine ⟨_, _, υ', rfl, eK, ⟨0, rfl, by rw [f4.v 0, u2.v 0, sV_eq]; rfl, fun _ => rfl⟩, mv L r (15 + T) (L r).length, B, n, T + 1, hh + 1, m, c, by have := i.hk; omega, ?_, ?_, ?_, ?_, ?_, i.gs.fr fc f5⟩
  · refine ⟨?_, ?_, ?_, ?_, ?_, ?_, ?_, ?_, ?_, ?_, ?_, ?_, ?_, ?_, ?_⟩
    · exact m3
    · exact i.gy.pl.mv (by omega) (by omega) hab
    · refine i.gy.wh.mv i.gy.pl (by omega) (by omega) hab (fun w hw => ?_) (fun w hw => ?_)
      · rw [hD] at hw
        rw [v1, setW_t hw, if_neg (by omega)]
      · rw [hD] at hw
        rw [v1, setW_f hw]
    · rw [v4, f5.a 5]
      refine (i.gy.mr.cut hr (y := 0) (Nat.zero_le _)).congr (fun q hq => ?_)
      by_cases hqr : q = r
      · subst hqr; rw [Lr, setL_eq]; rfl
      · rw [mv_o hqr (by omega), setL_ne hqr]
    · exact n30
    · rw [fc.v 0]; exact i.gy.sn
    · rw [f5.v 2]; exact i.gy.mn
    · omega
    · rw [m2.v 1, l2.v 1, ← hσa, sW_v, sV_eq]
    · rw [← hυ', sV_eq]
    · rw [s31, v20, i.gy.dE]
    · intro q hq
      rw [v20]
      by_cases hqT : q = T
      · rw [hqT, upd_eq]; exact ⟨z, hz, rfl⟩
      · rw [upd_ne hqT]; exact i.gy.dst q (by omega)
    · intro q h1 h2
      rw [mv_o (by omega) (by omega)]
      exact i.gy.un q (by omega) h2
    · intro q hq
      rw [f5.a 21, v22]
      by_cases hqT : q = T
      · subst hqT
        rw [Lb, upd_eq]
        refine Or.inr ⟨hne, i.gy.arN q (Nat.le_refl _) hT, rfl, fun j x hx => ?_⟩
        rw [v23]; exact u6 j x hx
      · rw [mv_o (by omega) (by omega), upd_ne hqT]
        rcases i.gy.arr q (by omega) with h | ⟨a1, a2, a3, a4⟩
        · exact Or.inl h
        · refine Or.inr ⟨a1, a2, a3, fun j x hx => ?_⟩
          have := get?_lt hx
          have := i.gy.yd.rows.len (r := 15 + q) (by omega)
          rw [v23, u7 _ (by omega)]
          exact a4 j x hx
    · rw [f5.a 21]
      exact fun q h1 h2 => i.gy.arN q (by omega) h2
  · refine ⟨?_, ?_, ?_⟩
    · intro w hw
      rw [s29, v2]
      unfold setF
      by_cases hwr : w ∈ L r
      · rw [if_pos hwr, if_pos hwr]
        refine ⟨rfl, Or.inr ?_⟩
        unfold vM
        exact i.gb.gr _ (kof w hwr _ rfl).1
      · rw [if_neg hwr, if_neg hwr]; exact i.gc.car w hw
    · intro w h1 h2
      rw [s29]
      unfold setF
      have hwr : w ∉ L r := fun h => by
        have := (i.gy.pl.1 r (by omega)).2 w h
        omega
      rw [if_neg hwr]; exact i.gc.carN w h1 h2
    · rw [fc.a 30, f5.a 6]; exact i.gc.fol
  · refine i.gb.stG fc f5 (fun b => ?_) (by rw [s16, v13])
    rcases hF b with ⟨a1, a2⟩ | e
    · rw [a1, a2]; decide
    · rw [e]
  · refine i.gk.st fc f5 (by rw [fc.a 23, f5.a 12]; exact i.gk.e23) (fun q hq => by rw [f5.a 12]; exact i.gk.op q hq) (fun q hq gq b' hb' ob => ?_)
    rw [f5.a 12] at ob
    have h9 := i.gk.opo q hq gq b' hb' ob
    rcases hF b' with ⟨a1, -⟩ | e
    · rw [a1] at h9; exact absurd h9.1 (by decide)
    · rw [e]; exact h9
  · constructor
    · rw [f5.a 3]
      intro q h1 h2 w hw
      by_cases hqT : q = 15 + T
      · rw [hqT, Lb] at hw
        obtain ⟨b, q1, -, q2, -⟩ := hgo w hw
        refine ⟨b, q1, q2, Or.inl ?_⟩
        have hkw : kM μ w = b := by unfold kM; rw [q2, nI_clamp (by omega)]
        rw [v13, ← hkw]
        exact setB_t hw
      · rw [mv_o (by omega) hqT] at hw
        obtain ⟨b, q1, q2, q3⟩ := i.gt.trip q h1 h2 w hw
        exact ⟨b, q1, q2, h34 b q1 q3⟩
    · exact Nat.le_trans (Nat.succ_le_succ i.gt.cnt) (cnt34_succ m h34 ⟨b0, hb0, by rw [s0]; decide, Or.inl hb3⟩)
