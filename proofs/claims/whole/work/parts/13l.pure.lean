/-! ===== the pure part: confirm, resume, cancel, hangUp ===== -/
theorem Gb.st {σ μ σ' μ' : tyS} {B : Nat → List Nat} {n m b : Nat} {x : Int32} {as vs bs us : List Nat} (g : Gb σ μ B n m) (f : Fr as vs σ σ') (f2 : Fr bs us μ μ') (e13 : μ'.1 13 = upd (μ.1 13) b x) (e16 : σ'.1 16 = μ'.1 13) (e17 : σ'.1 17 = μ'.1 17) (hb : ¬ 4 ≤ μ.1 13 b) (hx : ¬ 4 ≤ x) (d1 : dis as [13, 14, 15, 18, 19, 20] = true := by decide) (d2 : dis vs [5] = true := by decide) (d3 : dis bs [3, 14, 15, 16, 18, 19] = true := by decide) (d4 : dis us [5] = true := by decide) : Gb σ' μ' B n m := by
  have hact : ∀ b', (4 ≤ μ'.1 13 b' ↔ 4 ≤ μ.1 13 b') := by
    intro b'
    rw [e13]
    by_cases h : b' = b
    · subst h
      rw [upd_eq]
      exact ⟨fun h => absurd h hx, fun h => absurd h hb⟩
    · rw [upd_ne h]
  refine ⟨?_, ?_, ?_, ?_, ?_, ?_, ?_, ?_, ?_, ?_, ?_, ?_, ?_, ?_, ?_, ?_⟩
  · rw [f.vd d2 (a := 5) (by decide)]; exact g.sm
  · rw [f2.vd d4 (a := 5) (by decide)]; exact g.mm
  · exact g.m40
  · rw [f.ad d1 (a := 13) (by decide), f2.ad d3 (a := 15) (by decide)]; exact g.e13
  · rw [f.ad d1 (a := 14) (by decide), f2.ad d3 (a := 16) (by decide)]; exact g.e14
  · rw [f.ad d1 (a := 15) (by decide), f2.ad d3 (a := 14) (by decide)]; exact g.e15
  · exact e16
  · exact e17
  · rw [f.ad d1 (a := 18) (by decide), f2.ad d3 (a := 18) (by decide)]; exact g.e18
  · rw [f.ad d1 (a := 19) (by decide), f2.ad d3 (a := 19) (by decide)]; exact g.e19
  · rw [f2.ad d3 (a := 14) (by decide)]; exact g.gr
  · rw [f2.ad d3 (a := 18) (by decide), f2.ad d3 (a := 19) (by decide)]; exact g.bl
  · rw [f2.ad d3 (a := 18) (by decide)]; exact g.blN
  · rw [f.ad d1 (a := 20) (by decide), f2.ad d3 (a := 3) (by decide)]
    intro w hw
    rcases g.bk w hw with h | ⟨b', h1, h2, h3, h4⟩
    · exact Or.inl h
    · refine Or.inr ⟨b', h1, h2, h3, ?_⟩
      rw [hact b']
      exact h4
  · rw [f2.ad d3 (a := 3) (by decide)]
    intro b' hb' h
    rw [hact b'] at h
    exact g.act b' hb' h
  · rw [f.ad d1 (a := 20) (by decide)]; exact g.bkN
/-- a booking's wagons given free -/
theorem Gb.rel {σ μ σ' μ' : tyS} {B : Nat → List Nat} {n m b : Nat} {x : Int32} {as vs bs us : List Nat} (g : Gb σ μ B n m) (f : Fr as vs σ σ') (f2 : Fr bs us μ μ') (hbm : b < m) (e13 : μ'.1 13 = upd (μ.1 13) b x) (e16 : σ'.1 16 = μ'.1 13) (e17 : σ'.1 17 = μ'.1 17) (e20 : σ'.1 20 = setW (σ.1 20) (B b) nM) (hb : ¬ 4 ≤ μ.1 13 b) (hx : 4 ≤ x) (d1 : dis as [13, 14, 15, 18, 19] = true := by decide) (d2 : dis vs [5] = true := by decide) (d3 : dis bs [3, 14, 15, 16, 18, 19] = true := by decide) (d4 : dis us [5] = true := by decide) : Gb σ' μ' B n m := by
  have m40 := g.m40
  refine ⟨?_, ?_, ?_, ?_, ?_, ?_, ?_, ?_, ?_, ?_, ?_, ?_, ?_, ?_, ?_, ?_⟩
  · rw [f.vd d2 (a := 5) (by decide)]; exact g.sm
  · rw [f2.vd d4 (a := 5) (by decide)]; exact g.mm
  · exact g.m40
  · rw [f.ad d1 (a := 13) (by decide), f2.ad d3 (a := 15) (by decide)]; exact g.e13
  · rw [f.ad d1 (a := 14) (by decide), f2.ad d3 (a := 16) (by decide)]; exact g.e14
  · rw [f.ad d1 (a := 15) (by decide), f2.ad d3 (a := 14) (by decide)]; exact g.e15
  · exact e16
  · exact e17
  · rw [f.ad d1 (a := 18) (by decide), f2.ad d3 (a := 18) (by decide)]; exact g.e18
  · rw [f.ad d1 (a := 19) (by decide), f2.ad d3 (a := 19) (by decide)]; exact g.e19
  · rw [f2.ad d3 (a := 14) (by decide)]; exact g.gr
  · rw [f2.ad d3 (a := 18) (by decide), f2.ad d3 (a := 19) (by decide)]; exact g.bl
  · rw [f2.ad d3 (a := 18) (by decide)]; exact g.blN
  · rw [e20, f2.ad d3 (a := 3) (by decide), e13]
    intro w hw
    rcases g.bk w hw with ⟨h1, h2⟩ | ⟨b', h1, h2, h3, h4⟩
    · refine Or.inl ⟨h1, ?_⟩
      by_cases hw2 : w ∈ B b
      · rw [setW_t hw2]
      · rw [setW_f hw2]; exact h2
    · refine Or.inr ⟨b', h1, h2, h3, ?_⟩
      by_cases hbb : b' = b
      · subst hbb
        rw [upd_eq, setW_t h3]
        exact Or.inl ⟨hx, rfl⟩
      · rw [upd_ne hbb]
        have hw2 : w ∉ B b := fun hw2 => by
          have := g.act b hbm hb w hw2
          rw [h2] at this
          exact hbb ((nI_eq (by omega) (by omega)).mp this)
        rw [setW_f hw2]
        exact h4
  · rw [f2.ad d3 (a := 3) (by decide), e13]
    intro b' hb' h
    by_cases hbb : b' = b
    · subst hbb
      rw [upd_eq] at h
      exact absurd hx h
    · rw [upd_ne hbb] at h
      exact g.act b' hb' h
  · rw [e20]
    intro w hw hw3
    by_cases hw2 : w ∈ B b
    · rw [setW_t hw2]
    · rw [setW_f hw2]; exact g.bkN w hw hw3
theorem release_v {σ μ : tyS} {B : Nat → List Nat} {n m b : Nat} {x : Int32} (g : Gb σ μ B n m) (hb : b < m) (n30 : n ≤ 30) : ∃ τ, tyf_L_release σ (nI b) x = some τ ∧ Fr [16, 20] [] σ τ ∧ τ.1 16 = upd (σ.1 16) b x ∧ τ.1 20 = setW (σ.1 20) (B b) nM := by
  have m40 := g.m40
  obtain ⟨hl, hc, he, hnd, hlt⟩ := g.bl b hb
  have lp : ∀ (d j f : Nat) (τ : tyS), (B b).length - j = d → j ≤ (B b).length → d < f → Fr [16, 20] [] σ τ → τ.1 16 = upd (σ.1 16) b x → τ.1 20 = setW (σ.1 20) ((B b).take j) nM → ∃ υ, tyl_L_release_9 (fun σ0 x1 x2 x3 => some σ0) f τ (nI b) x (nI j) = some υ ∧ Fr [16, 20] [] σ υ ∧ υ.1 16 = upd (σ.1 16) b x ∧ υ.1 20 = setW (σ.1 20) (B b) nM := by
    intro d
    induction d with
    | zero =>
      intro j f τ hd hj hf fr h16 h20
      obtain ⟨f, rfl⟩ : ∃ g, f = g + 1 := ⟨f - 1, by omega⟩
      have hjl : j = (B b).length := by omega
      rw [hjl, List.take_length] at h20
      refine ⟨τ, ?_, fr, h16, h20⟩
      show tyb_L_release_9 _ _ _ _ _ _ = _
      unfold tyb_L_release_9
      rw [chk_in (by omega) (by decide), nI_clamp (by omega), fr.a 18, g.e18, hc, if_pos (nI_le (by omega) (by omega))]
    | succ d ih =>
      intro j f τ hd hj hf fr h16 h20
      obtain ⟨f, rfl⟩ : ∃ g, f = g + 1 := ⟨f - 1, by omega⟩
      obtain ⟨w, hw⟩ := lt_get? (l := B b) (i := j) (by omega)
      have hwn := hlt w (get?_mem hw)
      have e : tyl_L_release_9 (fun σ0 x1 x2 x3 => some σ0) (f + 1) τ (nI b) x (nI j) = tyl_L_release_9 (fun σ0 x1 x2 x3 => some σ0) f (sW τ 20 (nI w) nM) (nI b) x (nI (j + 1)) := by
        show tyb_L_release_9 _ _ _ _ _ _ = _
        unfold tyb_L_release_9 tyf_L_get
        rw [chk_in (by omega) (by decide), nI_clamp (n := b) (by omega), fr.a 18, g.e18, hc, if_neg (nI_ge (by omega) (by omega)), il30, nI_mul, nI_add, Nat.mul_comm b 30, chk_in (by omega) (by decide), nI_clamp (by omega), bR_s, fr.a 19, g.e19, he j w hw, chk_in (by omega) (by decide), stp_e, ← nI_add j 1]
        rfl
      rw [e]
      refine ih (j + 1) f _ (by omega) (by omega) (by omega) ((fr.tr Fr.sW).mono (by decide) (by decide)) ?_ ?_
      · rw [sW_ne (by decide)]; exact h16
      · rw [sW_eq (by omega), h20, setW_snoc, take_snoc hw]
  unfold tyf_L_release
  rw [chk_in (by omega) (by decide), stp_e]
  exact lp (B b).length 0 64 _ (by omega) (by omega) (by omega) (Fr.sW.mono (by decide) (by decide)) (by rw [sW_eq (by omega)]) (by rw [sW_ne (by decide), List.take_zero, setW_nil])
theorem Gk.uniq {σ μ : tyS} {m c i j b : Nat} (g : Gk σ μ m c) (hi : i < c) (hj : j < c) (gi : μ.1 11 i = nI 1) (gj : μ.1 11 j = nI 1) (hb : b < m) (oi : μ.1 12 i = nI b) (oj : μ.1 12 j = nI b) : i = j := by
  have c60 := g.c60
  obtain ⟨q, hq, e⟩ := g.cu i hi
  have h1 := (g.opo i hi gi b hb oi).2
  have h2 := (g.opo j hj gj b hb oj).2
  have e2 : μ.1 9 j = nI q := by rw [← h2, h1, e]
  have a1 := g.on2 i hi gi q hq e
  have a2 := g.on2 j hj gj q hq e2
  exact (nI_eq (by omega) (by omega)).mp (a1.symm.trans a2)
/-- the calls' part, where standings of bookings and open bookings of calls changed -/
theorem Gk.st {σ μ σ' μ' : tyS} {m c : Nat} {as vs bs us : List Nat} (g : Gk σ μ m c) (f : Fr as vs σ σ') (f2 : Fr bs us μ μ') (e23 : σ'.1 23 = μ'.1 12) (hop : ∀ i, i < c → μ'.1 12 i = nM ∨ ∃ b, b < m ∧ μ'.1 12 i = nI b) (hopo : ∀ i, i < c → μ.1 11 i = nI 1 → ∀ b, b < m → μ'.1 12 i = nI b → μ'.1 13 b = nI 0 ∧ μ.1 15 b = μ.1 9 i) (d1 : dis as [21, 22, 24, 25, 26, 27, 28] = true := by decide) (d2 : dis vs [6] = true := by decide) (d3 : dis bs [7, 8, 9, 10, 11, 15] = true := by decide) (d4 : dis us [3] = true := by decide) : Gk σ' μ' m c := by
  refine ⟨?_, ?_, ?_, ?_, ?_, ?_, ?_, ?_, ?_, ?_, ?_, ?_, ?_, ?_, ?_, ?_, ?_⟩
  · rw [f.vd d2 (a := 6) (by decide)]; exact g.sc
  · rw [f2.vd d4 (a := 3) (by decide)]; exact g.mc
  · exact g.c60
  · rw [f.ad d1 (a := 21) (by decide), f2.ad d3 (a := 9) (by decide)]; exact g.e21
  · rw [f.ad d1 (a := 22) (by decide), f2.ad d3 (a := 10) (by decide)]; exact g.e22
  · exact e23
  · rw [f.ad d1 (a := 27) (by decide), f2.ad d3 (a := 7) (by decide)]; exact g.e27
  · rw [f.ad d1 (a := 28) (by decide), f2.ad d3 (a := 8) (by decide)]; exact g.e28
  · rw [f2.ad d3 (a := 9) (by decide)]; exact g.cu
  · rw [f2.ad d3 (a := 10) (by decide)]; exact g.ya
  · exact hop
  · rw [f2.ad d3 (a := 11) (by decide), f2.ad d3 (a := 15) (by decide), f2.ad d3 (a := 9) (by decide)]; exact hopo
  · rw [f2.ad d3 (a := 11) (by decide)]; exact g.go
  · rw [f.ad d1 (a := 26) (by decide), f2.ad d3 (a := 9) (by decide), f2.ad d3 (a := 11) (by decide)]; exact g.on1
  · rw [f.ad d1 (a := 26) (by decide), f2.ad d3 (a := 9) (by decide), f2.ad d3 (a := 11) (by decide)]; exact g.on2
  · rw [f2.ad d3 (a := 7) (by decide), f2.ad d3 (a := 11) (by decide)]; exact g.tr1
  · rw [f.ad d1 (a := 24) (by decide), f.ad d1 (a := 25) (by decide), f2.ad d3 (a := 7) (by decide), f2.ad d3 (a := 11) (by decide)]; exact g.tr2
/-- no booking on the way came off it -/
theorem cnt34_le {f f2 : Nat → Int32} : ∀ m, (∀ b, b < m → (f b = nI 3 ∨ f b = nI 4) → (f2 b = nI 3 ∨ f2 b = nI 4)) → cnt34 f m ≤ cnt34 f2 m := by
  intro m
  induction m with
  | zero => intro _; exact Nat.le_refl _
  | succ m ih =>
    intro h
    have h1 := ih (fun b hb => h b (by omega))
    have h2 := h m (by omega)
    show cnt34 f m + _ ≤ cnt34 f2 m + _
    by_cases h3 : f m = nI 3 ∨ f m = nI 4
    · rw [if_pos h3, if_pos (h2 h3)]; omega
    · rw [if_neg h3]; omega
theorem Gt.st {μ μ' : tyS} {L : Nat → List Nat} {T m : Nat} {bs us : List Nat} (g : Gt μ L T m) (f2 : Fr bs us μ μ') (h : ∀ b, b < m → (μ.1 13 b = nI 3 ∨ μ.1 13 b = nI 4) → (μ'.1 13 b = nI 3 ∨ μ'.1 13 b = nI 4)) (d3 : dis bs [3] = true := by decide) : Gt μ' L T m := by
  constructor
  · rw [f2.ad d3 (a := 3) (by decide)]
    intro r h1 h2 w hw
    obtain ⟨b, hb, e, hs⟩ := g.trip r h1 h2 w hw
    exact ⟨b, hb, e, h b hb hs⟩
  · exact Nat.le_trans g.cnt (cnt34_le m h)
/-- one standing, that was neither 3 nor 4, changed -/
theorem upd34 {f : Nat → Int32} {b : Nat} {x : Int32} (h3 : f b ≠ nI 3) (h4 : f b ≠ nI 4) : ∀ b', (f b' = nI 3 ∨ f b' = nI 4) → (upd f b x b' = nI 3 ∨ upd f b x b' = nI 4) := by
  intro b' h
  by_cases hb : b' = b
  · subst hb
    rcases h with h | h
    · exact absurd h h3
    · exact absurd h h4
  · rw [upd_ne hb]; exact h
theorem op_confirm {k : Nat} {σ μ : tyS} (h : Inv k σ μ) (hk : k < 512) (p1 : Int32) : ∃ res v μ', tyf_T_confirm σ p1 = some res ∧ tyf_M_confirm μ p1 = some (v, μ') ∧ Ag [3, 2] res v μ' ∧ Inv (k + 1) res.2.2 μ' := by
  obtain ⟨L, B, n, T, hh, m, c, i⟩ := h
  have c60 := i.gk.c60
  have m40 := i.gb.m40
  unfold tyf_T_confirm tyf_M_confirm tyf_B_openBooking tyf_L_keep tyf_B_setOpenBooking
  by_cases hx : isIx c p1
  rotate_left
  · rw [T_requireCall_f i.gk.sc (by omega) hx, bX_3, M_isCall_f i.gk.mc (by omega) hx, bR_s, if_pos rfl, stp_e]
    exact i.bad (kk := 1) rfl rfl sV_eq Fr.sV Fr.rf
  obtain ⟨j, hj, rfl⟩ := hx
  rw [T_requireCall_t i.gk.sc (by omega) hj, bX_r, M_isCall_t i.gk.mc (by omega) hj, bR_s, if_neg (show ¬ (1 : Int32) = 0 by decide), chk_in (by omega) (by decide), chk_in (by omega) (by decide), nI_clamp (n := j) (by omega)]
  rcases i.gk.go j hj with h0 | h1
  · rw [T_requireOngoing_f i.gk hj h0, bX_2, h0, if_pos nI_0, stp_e]
    exact i.bad (kk := 2) rfl rfl sV_eq Fr.sV Fr.rf
  rw [T_requireOngoing_t i.gk hj h1, bX_r, chk_in (by omega) (by decide), bR_s, h1, if_neg (show ¬ nI 1 = 0 by decide), i.gk.e23]
  rcases i.gk.op j hj with e | ⟨b, hb, e⟩
  · rw [e, if_pos rfl, if_pos rfl, stp_e]
    exact i.bad (kk := 2) rfl rfl sV_eq Fr.sV Fr.rf
  obtain ⟨st0, -⟩ := i.gk.opo j hj h1 b hb e
  rw [e, if_neg (nI_nM (by omega)), if_neg (nI_nM (by omega)), chk_in (by omega) (by decide), stp_e, bR_s, chk_in (by omega) (by decide), stp_e, bR_s, stp_e, chk_in (by omega) (by decide), sV_a, e, chk_in (by omega) (by decide), stp_e, chk_in (by omega) (by decide), stp_e]
  have f : Fr [16, 23] [] σ (sW (sW σ 16 (nI b) 2) 23 (nI j) (-1)) := (Fr.sW.tr Fr.sW).mono (by decide) (by decide)
  have f2 : Fr [13, 12] [0] μ (sW (sW (sV μ 0 0) 13 (nI b) 2) 12 (nI j) (-1)) := ((Fr.sV.tr Fr.sW).tr Fr.sW).mono (by decide) (by decide)
  have e13 : (sW (sW (sV μ 0 0) 13 (nI b) 2) 12 (nI j) (-1)).1 13 = upd (μ.1 13) b 2 := by rw [sW_ne (by decide), sW_eq (by omega), sV_a]
  have e12 : (sW (sW (sV μ 0 0) 13 (nI b) 2) 12 (nI j) (-1)).1 12 = upd (μ.1 12) j nM := by rw [sW_eq (by omega), sW_ne (by decide), sV_a]
  have e16 : (sW (sW σ 16 (nI b) 2) 23 (nI j) (-1)).1 16 = upd (μ.1 13) b 2 := by rw [sW_ne (by decide), sW_eq (by omega), i.gb.e16]
  have e23 : (sW (sW σ 16 (nI b) 2) 23 (nI j) (-1)).1 23 = upd (μ.1 12) j nM := by rw [sW_eq (by omega), sW_ne (by decide), i.gk.e23]
  refine ⟨_, _, _, rfl, rfl, ⟨0, rfl, by rw [sW_v, sW_v, sV_eq]; rfl, fun _ => rfl⟩, L, B, n, T, hh, m, c, by have := i.hk; omega, i.gy.fr f f2, i.gc.fr f f2, ?_, ?_, ?_, i.gs.fr f f2⟩
  · exact i.gb.st f f2 e13 (by rw [e16, e13]) (by rw [f.a 17, f2.a 17]; exact i.gb.e17) (by rw [st0]; decide) (by decide)
  · refine i.gk.st f f2 (by rw [e23, e12]) (fun q hq => ?_) (fun q hq gq b' hb' ob => ?_)
    · rw [e12]
      by_cases hqj : q = j
      · rw [hqj, upd_eq]; exact Or.inl rfl
      · rw [upd_ne hqj]; exact i.gk.op q hq
    · rw [e12] at ob
      by_cases hqj : q = j
      · rw [hqj, upd_eq] at ob; exact absurd ob (nM_nI (by omega))
      · rw [upd_ne hqj] at ob
        have hbb : b' ≠ b := by
          rintro rfl
          exact hqj (i.gk.uniq hq hj gq h1 hb ob e)
        rw [e13, upd_ne hbb]
        exact i.gk.opo q hq gq b' hb' ob
  · exact i.gt.st f2 (fun b' _ h => by rw [e13]; exact upd34 (by rw [st0]; decide) (by rw [st0]; decide) b' h)
/-! within a call -/
theorem isWithin_v {σ μ : tyS} {B : Nat → List Nat} {n m c j b : Nat} {x : Int32} (g : Gb σ μ B n m) (gk : Gk σ μ m c) (hj : j < c) (hb : b < m) : tyf_T_isWithin σ (nI j) (nI b) x = some (if μ.1 13 b = x ∧ μ.1 15 b = μ.1 9 j ∧ μ.1 16 b = μ.1 10 j then 1 else 0) := by
  have c60 := gk.c60
  have m40 := g.m40
  unfold tyf_T_isWithin tyf_L_standing tyf_L_customer tyf_B_customer tyf_L_yard tyf_B_yard
  rw [chk_in (by omega) (by decide), bR_s, chk_in (by omega) (by decide), bR_s, chk_in (by omega) (by decide), bR_s, chk_in (by omega) (by decide), bR_s, chk_in (by omega) (by decide), bR_s, nI_clamp (by omega), nI_clamp (by omega), g.e16, g.e13, g.e14, gk.e21, gk.e22]
  by_cases h1 : μ.1 13 b = x
  · rw [if_pos h1]
    by_cases h2 : μ.1 15 b = μ.1 9 j
    · rw [if_pos h2]
      by_cases h3 : μ.1 16 b = μ.1 10 j
      · rw [if_pos h3, if_pos ⟨h1, h2, h3⟩]
      · rw [if_neg h3, if_neg (fun e => h3 e.2.2)]
    · rw [if_neg h2, if_neg (fun e => h2 e.2.1)]
  · rw [if_neg h1, if_neg (fun e => h1 e.1)]
theorem isOf_v {μ : tyS} {j b : Nat} (hj : j < 60) (hb : b < 40) : tyf_M_isOf μ (nI j) (nI b) = some (if μ.1 15 b = μ.1 9 j ∧ μ.1 16 b = μ.1 10 j then 1 else 0) := by
  unfold tyf_M_isOf
  rw [chk_in (by omega) (by decide), chk_in (by omega) (by decide), chk_in (by omega) (by decide), chk_in (by omega) (by decide), nI_clamp (by omega), nI_clamp (by omega)]
  by_cases h2 : μ.1 15 b = μ.1 9 j
  · rw [if_pos h2]
    by_cases h3 : μ.1 16 b = μ.1 10 j
    · rw [if_pos h3, if_pos ⟨h2, h3⟩]
    · rw [if_neg h3, if_neg (fun e => h3 e.2)]
  · rw [if_neg h2, if_neg (fun e => h2 e.1)]
