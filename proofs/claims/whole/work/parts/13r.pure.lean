/-! ===== the pure part: ask, its changes ===== -/
/-- a booking opened, still without wagons -/
theorem Gb.opn {σ μ σ' μ' : tyS} {B : Nat → List Nat} {n m g0 : Nat} {x y : Int32} {as vs bs us : List Nat} (g : Gb σ μ B n m) (hm : m < 40) (hg : g0 < 4) (f : Fr as vs σ σ') (f2 : Fr bs us μ μ') (s1 : σ'.2 5 = nI (m + 1)) (s2 : μ'.2 5 = nI (m + 1)) (a13 : σ'.1 13 = upd (σ.1 13) m x) (a14 : σ'.1 14 = upd (σ.1 14) m y) (a15 : σ'.1 15 = upd (σ.1 15) m (nI g0)) (a16 : σ'.1 16 = upd (σ.1 16) m 0) (b13 : μ'.1 13 = upd (μ.1 13) m 0) (b14 : μ'.1 14 = upd (μ.1 14) m (nI g0)) (b15 : μ'.1 15 = upd (μ.1 15) m x) (b16 : μ'.1 16 = upd (μ.1 16) m y) (b18 : μ'.1 18 = μ.1 18) (d1 : dis as [17, 18, 19, 20] = true := by decide) (d3 : dis bs [3, 17, 19] = true := by decide) : Gb σ' μ' (setL B m []) n (m + 1) := by
  have m40 := g.m40
  have nm : ∀ b, b < m → b ≠ m := fun b h => by omega
  refine ⟨?_, ?_, ?_, ?_, ?_, ?_, ?_, ?_, ?_, ?_, ?_, ?_, ?_, ?_, ?_, ?_⟩
  · exact s1
  · exact s2
  · omega
  · rw [a13, b15, g.e13]
  · rw [a14, b16, g.e14]
  · rw [a15, b14, g.e15]
  · rw [a16, b13, g.e16]
  · rw [f.ad d1 (a := 17) (by decide), f2.ad d3 (a := 17) (by decide)]; exact g.e17
  · rw [f.ad d1 (a := 18) (by decide), b18]; exact g.e18
  · rw [f.ad d1 (a := 19) (by decide), f2.ad d3 (a := 19) (by decide)]; exact g.e19
  · intro b hb
    rw [b14]
    by_cases hbm : b = m
    · rw [hbm, upd_eq]; exact ⟨g0, hg, rfl⟩
    · rw [upd_ne hbm]; exact g.gr b (by omega)
  · intro b hb
    rw [b18, f2.ad d3 (a := 19) (by decide)]
    by_cases hbm : b = m
    · subst hbm
      rw [setL_eq]
      exact ⟨Nat.zero_le _, g.blN b (Nat.le_refl _) hm, fun i x h => by simp at h, List.nodup_nil, fun w h => absurd h List.not_mem_nil⟩
    · rw [setL_ne hbm]; exact g.bl b (by omega)
  · rw [b18]
    exact fun b h1 h2 => g.blN b (by omega) h2
  · intro w hw
    rw [f2.ad d3 (a := 3) (by decide), f.ad d1 (a := 20) (by decide), b13]
    rcases g.bk w hw with h | ⟨b, hb, h1, h2, h3⟩
    · exact Or.inl h
    · exact Or.inr ⟨b, by omega, h1, by rw [setL_ne (nm b hb)]; exact h2, by rw [upd_ne (nm b hb)]; exact h3⟩
  · intro b hb
    rw [b13, f2.ad d3 (a := 3) (by decide)]
    by_cases hbm : b = m
    · rw [hbm, setL_eq]
      exact fun _ w hw => absurd hw List.not_mem_nil
    · rw [upd_ne hbm, setL_ne hbm]; exact g.act b (by omega)
  · rw [f.ad d1 (a := 20) (by decide)]; exact g.bkN
/-- a wagon into a booking -/
theorem Gb.add {σ μ σ' μ' : tyS} {B : Nat → List Nat} {n m b w : Nat} {as vs bs us : List Nat} (g : Gb σ μ B n m) (n30 : n ≤ 30) (hb : b < m) (hs : ¬ 4 ≤ μ.1 13 b) (hw : w < n) (hfree : σ.1 20 w = nM) (f : Fr as vs σ σ') (f2 : Fr bs us μ μ') (a18 : σ'.1 18 = upd (σ.1 18) b (nI ((B b).length + 1))) (a19 : σ'.1 19 = upd (σ.1 19) (30 * b + (B b).length) (nI w)) (a20 : σ'.1 20 = upd (σ.1 20) w (nI b)) (b18 : μ'.1 18 = upd (μ.1 18) b (nI ((B b).length + 1))) (b19 : μ'.1 19 = upd (μ.1 19) (30 * b + (B b).length) (nI w)) (b3 : μ'.1 3 = upd (μ.1 3) w (nI b)) (d1 : dis as [13, 14, 15, 16, 17] = true := by decide) (d2 : dis vs [5] = true := by decide) (d3 : dis bs [13, 14, 15, 16, 17] = true := by decide) (d4 : dis us [5] = true := by decide) : Gb σ' μ' (setL B b (B b ++ [w])) n m := by
  have m40 := g.m40
  have nact : ∀ b', b' < m → ¬ 4 ≤ μ.1 13 b' → w ∉ B b' := by
    intro b' hb' h hwb
    have e := g.act b' hb' h w hwb
    rcases g.bk w hw with ⟨h1, -⟩ | ⟨b2, hb2, h1, h2, h3⟩
    · rw [h1] at e; exact nM_nI (by omega) e
    · rw [h1] at e
      have := (nI_eq (by omega) (by omega)).mp e
      subst this
      rcases h3 with ⟨h3, -⟩ | ⟨-, h3⟩
      · exact h h3
      · rw [hfree] at h3; exact nM_nI (by omega) h3
  have hnw := nact b hb hs
  obtain ⟨hl, hc, he, hnd, hlt⟩ := g.bl b hb
  have hnd2 : (B b ++ [w]).Nodup := List.nodup_append.mpr ⟨hnd, List.nodup_cons.mpr ⟨List.not_mem_nil, List.nodup_nil⟩, fun x hx z hz e => by
    rw [List.mem_singleton.mp hz] at e
    rw [e] at hx
    exact hnw hx⟩
  have hlt2 : ∀ x ∈ B b ++ [w], x < n := by
    intro x hx
    rcases List.mem_append.mp hx with hx | hx
    · exact hlt x hx
    · rw [List.mem_singleton.mp hx]; exact hw
  have hl2 := nodup_len hnd2 hlt2
  rw [List.length_append, List.length_singleton] at hl2
  refine ⟨?_, ?_, ?_, ?_, ?_, ?_, ?_, ?_, ?_, ?_, ?_, ?_, ?_, ?_, ?_, ?_⟩
  · rw [f.vd d2 (a := 5) (by decide)]; exact g.sm
  · rw [f2.vd d4 (a := 5) (by decide)]; exact g.mm
  · exact g.m40
  · rw [f.ad d1 (a := 13) (by decide), f2.ad d3 (a := 15) (by decide)]; exact g.e13
  · rw [f.ad d1 (a := 14) (by decide), f2.ad d3 (a := 16) (by decide)]; exact g.e14
  · rw [f.ad d1 (a := 15) (by decide), f2.ad d3 (a := 14) (by decide)]; exact g.e15
  · rw [f.ad d1 (a := 16) (by decide), f2.ad d3 (a := 13) (by decide)]; exact g.e16
  · rw [f.ad d1 (a := 17) (by decide), f2.ad d3 (a := 17) (by decide)]; exact g.e17
  · rw [a18, b18, g.e18]
  · rw [a19, b19, g.e19]
  · rw [f2.ad d3 (a := 14) (by decide)]; exact g.gr
  · intro b' hb'
    rw [b18, b19]
    by_cases hbb : b' = b
    · subst hbb
      rw [setL_eq, upd_eq, List.length_append, List.length_singleton]
      refine ⟨by omega, rfl, fun i x hx => ?_, hnd2, hlt2⟩
      have hi := get?_lt hx
      rw [List.length_append, List.length_singleton] at hi
      by_cases hi2 : i < (B b').length
      · rw [List.getElem?_append_left hi2] at hx
        rw [upd_ne (by omega)]
        exact he i x hx
      · have : i = (B b').length := by omega
        subst this
        rw [List.getElem?_append_right (Nat.le_refl _), Nat.sub_self] at hx
        simp only [List.getElem?_cons_zero, Option.some.injEq] at hx
        rw [upd_eq, hx]
    · rw [setL_ne hbb, upd_ne hbb]
      obtain ⟨q1, q2, q3, q4, q5⟩ := g.bl b' hb'
      refine ⟨q1, q2, fun i x hx => ?_, q4, q5⟩
      have hi := get?_lt hx
      rw [upd_ne (by omega)]
      exact q3 i x hx
  · intro b' h1 h2
    rw [b18, upd_ne (by omega)]
    exact g.blN b' h1 h2
  · intro v hv
    rw [b3, a20, f2.ad d3 (a := 13) (by decide)]
    by_cases hvw : v = w
    · subst hvw
      rw [upd_eq, upd_eq]
      refine Or.inr ⟨b, hb, rfl, ?_, Or.inr ⟨hs, rfl⟩⟩
      rw [setL_eq]
      exact List.mem_append_right _ (List.mem_singleton.mpr rfl)
    · rw [upd_ne hvw, upd_ne hvw]
      rcases g.bk v hv with h | ⟨b2, hb2, h1, h2, h3⟩
      · exact Or.inl h
      · refine Or.inr ⟨b2, hb2, h1, ?_, h3⟩
        by_cases hbb : b2 = b
        · rw [hbb, setL_eq]
          rw [hbb] at h2
          exact List.mem_append_left _ h2
        · rw [setL_ne hbb]; exact h2
  · intro b' hb'
    rw [f2.ad d3 (a := 13) (by decide), b3]
    intro h v hv
    by_cases hbb : b' = b
    · subst hbb
      rw [setL_eq] at hv
      by_cases hvw : v = w
      · rw [hvw, upd_eq]
      · rw [upd_ne hvw]
        rcases List.mem_append.mp hv with hv | hv
        · exact g.act b' hb' h v hv
        · exact absurd (List.mem_singleton.mp hv) hvw
    · rw [setL_ne hbb] at hv
      have hvw : v ≠ w := by
        rintro rfl
        exact nact b' hb' h hv
      rw [upd_ne hvw]
      exact g.act b' hb' h v hv
  · intro v h1 h2
    rw [a20, upd_ne (by omega)]
    exact g.bkN v h1 h2
theorem T_add_v {σ μ : tyS} {B : Nat → List Nat} {n m b w : Nat} (g : Gb σ μ B n m) (hb : b < m) (hw : w < 30) (hl : (B b).length < 30) : ∃ τ, tyf_L_add σ (nI b) (nI w) = some τ ∧ Fr [18, 19, 20] [] σ τ ∧ τ.1 18 = upd (σ.1 18) b (nI ((B b).length + 1)) ∧ τ.1 19 = upd (σ.1 19) (30 * b + (B b).length) (nI w) ∧ τ.1 20 = upd (σ.1 20) w (nI b) := by
  have m40 := g.m40
  obtain ⟨-, hc, -⟩ := g.bl b hb
  unfold tyf_L_add
  rw [chk_in (by omega) (by decide), nI_clamp (n := b) (by omega), g.e18, hc, il30, nI_mul, nI_add, Nat.mul_comm b 30, chk_in (by omega) (by decide), stp_e, chk_in (by omega) (by decide), chk_in (by omega) (by decide), sW_ne (by decide), g.e18, hc, il1, nI_add, stp_e, chk_in hw (by decide), stp_e]
  refine ⟨_, rfl, ((Fr.sW.tr Fr.sW).tr Fr.sW).mono (by decide) (by decide), ?_, ?_, ?_⟩
  · rw [sW_ne (by decide), sW_eq (by omega), sW_ne (by decide), g.e18]
  · rw [sW_ne (by decide), sW_ne (by decide), sW_eq (by omega)]
  · rw [sW_eq (by omega), sW_ne (by decide), sW_ne (by decide)]
theorem M_adds_v {σ μ : tyS} {B : Nat → List Nat} {n m b w : Nat} (g : Gb σ μ B n m) (hb : b < m) (hw : w < 30) (hl : (B b).length < 30) : ∃ τ, tyf_M_adds μ (nI b) (nI w) = some τ ∧ Fr [18, 19, 3] [] μ τ ∧ τ.1 18 = upd (μ.1 18) b (nI ((B b).length + 1)) ∧ τ.1 19 = upd (μ.1 19) (30 * b + (B b).length) (nI w) ∧ τ.1 3 = upd (μ.1 3) w (nI b) := by
  have m40 := g.m40
  obtain ⟨-, hc, -⟩ := g.bl b hb
  unfold tyf_M_adds
  rw [chk_in (by omega) (by decide), nI_clamp (n := b) (by omega), hc, il30, nI_mul, nI_add, chk_in (by omega) (by decide), stp_e, chk_in (by omega) (by decide), chk_in (by omega) (by decide), sW_ne (by decide), hc, il1, nI_add, stp_e, chk_in hw (by decide), stp_e]
  refine ⟨_, rfl, ((Fr.sW.tr Fr.sW).tr Fr.sW).mono (by decide) (by decide), ?_, ?_, ?_⟩
  · rw [sW_ne (by decide), sW_eq (by omega), sW_ne (by decide)]
  · rw [sW_ne (by decide), sW_ne (by decide), sW_eq (by omega)]
  · rw [sW_eq (by omega), sW_ne (by decide), sW_ne (by decide)]
/-- a booking with a wagon not in it has room -/
theorem Gb.room {σ μ : tyS} {B : Nat → List Nat} {n m b w : Nat} (g : Gb σ μ B n m) (n30 : n ≤ 30) (hb : b < m) (hs : ¬ 4 ≤ μ.1 13 b) (hw : w < n) (hfree : σ.1 20 w = nM) : (B b).length < 30 := by
  have m40 := g.m40
  obtain ⟨hl, hc, he, hnd, hlt⟩ := g.bl b hb
  have hnw : w ∉ B b := by
    intro hwb
    have e := g.act b hb hs w hwb
    rcases g.bk w hw with ⟨h1, -⟩ | ⟨b2, hb2, h1, h2, h3⟩
    · rw [h1] at e; exact nM_nI (by omega) e
    · rw [h1] at e
      have := (nI_eq (by omega) (by omega)).mp e
      subst this
      rcases h3 with ⟨h3, -⟩ | ⟨-, h3⟩
      · exact hs h3
      · rw [hfree] at h3; exact nM_nI (by omega) h3
  have hl2 := nodup_len (l := w :: B b) (n := n) (List.nodup_cons.mpr ⟨hnw, hnd⟩) (fun x hx => by
    rcases List.mem_cons.mp hx with hx | hx
    · rw [hx]; exact hw
    · exact hlt x hx)
  simp only [List.length_cons] at hl2
  omega
theorem Gk.opn {σ μ σ' μ' : tyS} {m c j : Nat} {as vs bs us : List Nat} (g : Gk σ μ m c) (m40 : m ≤ 40) (hj : j < c) (f : Fr as vs σ σ') (f2 : Fr bs us μ μ') (a23 : σ'.1 23 = upd (σ.1 23) j (nI m)) (b12 : μ'.1 12 = upd (μ.1 12) j (nI m)) (b13 : μ'.1 13 = upd (μ.1 13) m 0) (b15 : μ'.1 15 = upd (μ.1 15) m (μ.1 9 j)) (d1 : dis as [21, 22, 24, 25, 26, 27, 28] = true := by decide) (d2 : dis vs [6] = true := by decide) (d3 : dis bs [7, 8, 9, 10, 11] = true := by decide) (d4 : dis us [3] = true := by decide) : Gk σ' μ' (m + 1) c := by
  have c60 := g.c60
  refine ⟨?_, ?_, ?_, ?_, ?_, ?_, ?_, ?_, ?_, ?_, ?_, ?_, ?_, ?_, ?_, ?_, ?_⟩
  · rw [f.vd d2 (a := 6) (by decide)]; exact g.sc
  · rw [f2.vd d4 (a := 3) (by decide)]; exact g.mc
  · exact g.c60
  · rw [f.ad d1 (a := 21) (by decide), f2.ad d3 (a := 9) (by decide)]; exact g.e21
  · rw [f.ad d1 (a := 22) (by decide), f2.ad d3 (a := 10) (by decide)]; exact g.e22
  · rw [a23, b12, g.e23]
  · rw [f.ad d1 (a := 27) (by decide), f2.ad d3 (a := 7) (by decide)]; exact g.e27
  · rw [f.ad d1 (a := 28) (by decide), f2.ad d3 (a := 8) (by decide)]; exact g.e28
  · rw [f2.ad d3 (a := 9) (by decide)]; exact g.cu
  · rw [f2.ad d3 (a := 10) (by decide)]; exact g.ya
  · rw [b12]
    intro i hi
    by_cases hij : i = j
    · rw [hij, upd_eq]; exact Or.inr ⟨m, by omega, rfl⟩
    · rw [upd_ne hij]
      rcases g.op i hi with h | ⟨b, hb, h⟩
      · exact Or.inl h
      · exact Or.inr ⟨b, by omega, h⟩
  · rw [f2.ad d3 (a := 11) (by decide), b12, b13, b15, f2.ad d3 (a := 9) (by decide)]
    intro i hi gi b hb ob
    by_cases hij : i = j
    · subst hij
      rw [upd_eq] at ob
      have := (nI_eq (by omega) (by omega)).mp ob
      subst this
      rw [upd_eq, upd_eq]; exact ⟨rfl, rfl⟩
    · rw [upd_ne hij] at ob
      have hbm : b < m := by
        rcases g.op i hi with h | ⟨b2, hb2, h⟩
        · rw [h] at ob; exact absurd ob (nM_nI (by omega))
        · rw [h] at ob
          have := (nI_eq (by omega) (by omega)).mp ob
          omega
      have hne : b ≠ m := by omega
      rw [upd_ne hne, upd_ne hne]
      exact g.opo i hi gi b hbm ob
  · rw [f2.ad d3 (a := 11) (by decide)]; exact g.go
  · rw [f.ad d1 (a := 26) (by decide), f2.ad d3 (a := 9) (by decide), f2.ad d3 (a := 11) (by decide)]; exact g.on1
  · rw [f.ad d1 (a := 26) (by decide), f2.ad d3 (a := 9) (by decide), f2.ad d3 (a := 11) (by decide)]; exact g.on2
  · rw [f2.ad d3 (a := 7) (by decide), f2.ad d3 (a := 11) (by decide)]; exact g.tr1
  · rw [f.ad d1 (a := 24) (by decide), f.ad d1 (a := 25) (by decide), f2.ad d3 (a := 7) (by decide), f2.ad d3 (a := 11) (by decide)]; exact g.tr2
theorem Best.wagon {σ : tyS} {L : Nat → List Nat} {y g n : Nat} {r : Int32} (h : Best σ L y g r) (hp : Pl L n) (hy : y < 3) : r = nM ∨ ∃ w t, t < 5 ∧ r = nI w ∧ w ∈ L (5 * y + t) ∧ w < n ∧ σ.1 20 w = nM := by
  rcases h with ⟨e, -⟩ | ⟨d, t, w, hd, ht, hc, e, -⟩
  · exact Or.inl e
  · refine Or.inr ⟨w, t, ht, e, ?_⟩
    unfold cand at hc
    cases hg : (L (5 * y + t)).reverse[d]? with
    | none => rw [hg] at hc; cases hc
    | some v =>
      rw [hg] at hc
      have hc : (if okW σ g v = true then some v else none) = some w := hc
      by_cases hok : okW σ g v = true
      · rw [if_pos (by exact hok)] at hc
        cases hc
        have hm : w ∈ L (5 * y + t) := List.mem_reverse.mp (get?_mem hg)
        exact ⟨hm, (hp.1 _ (by omega)).2 w hm, of_decide_eq_true (Bool.and_eq_true _ _ ▸ hok).1⟩
      · rw [if_neg (by exact hok)] at hc; cases hc
/-- the promise of a wagon on a track is no business of trains -/
theorem Gt.bk {μ μ' : tyS} {L : Nat → List Nat} {n T m r0 w b : Nat} {bs us : List Nat} (g : Gt μ L T m) (hp : Pl L n) (hr : r0 < 15) (hw : w ∈ L r0) (f2 : Fr bs us μ μ') (b3 : μ'.1 3 = upd (μ.1 3) w (nI b)) (d3 : dis bs [13] = true := by decide) : Gt μ' L T m := by
  constructor
  · rw [b3, f2.ad d3 (a := 13) (by decide)]
    intro r h1 h2 v hv
    have hvw : v ≠ w := by
      rintro rfl
      have := hp.2.1 r r0 v h2 (by omega) hv hw
      omega
    rw [upd_ne hvw]
    exact g.trip r h1 h2 v hv
  · rw [f2.ad d3 (a := 13) (by decide)]; exact g.cnt
theorem Gt.opn {μ μ' : tyS} {L : Nat → List Nat} {T m : Nat} {bs us : List Nat} (g : Gt μ L T m) (f2 : Fr bs us μ μ') (b13 : μ'.1 13 = upd (μ.1 13) m 0) (d3 : dis bs [3] = true := by decide) : Gt μ' L T (m + 1) := by
  constructor
  · rw [f2.ad d3 (a := 3) (by decide), b13]
    intro r h1 h2 v hv
    obtain ⟨b, hb, e, h⟩ := g.trip r h1 h2 v hv
    exact ⟨b, by omega, e, by rw [upd_ne (by omega)]; exact h⟩
  · rw [b13]
    refine Nat.le_trans g.cnt (Nat.le_trans (cnt34_le (f2 := upd (μ.1 13) m 0) m (fun b hb h => by rw [upd_ne (by omega)]; exact h)) ?_)
    show _ ≤ cnt34 _ m + _
    omega
