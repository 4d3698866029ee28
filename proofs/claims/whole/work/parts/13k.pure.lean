/-! ===== the pure part: wash, follow, mend, setLines ===== -/
theorem op_wash {k : Nat} {σ μ : tyS} (h : Inv k σ μ) (hk : k < 512) (p1 : Int32) : ∃ res v μ', tyf_T_wash σ p1 = some res ∧ tyf_M_wash μ p1 = some (v, μ') ∧ Ag [1, 2] res v μ' ∧ Inv (k + 1) res.2.2 μ' := by
  obtain ⟨L, B, n, T, hh, m, c, i⟩ := h
  have n30 := i.gy.n30
  unfold tyf_T_wash tyf_M_wash
  by_cases hp : isIx 3 p1
  rotate_left
  · rw [T_requireYard_f hp, bX_1, M_isYard_f hp, bR_s, if_pos rfl, stp_e]
    exact i.bad (kk := 1) rfl rfl sV_eq Fr.sV Fr.rf
  obtain ⟨y, hy, rfl⟩ := hp
  have hr : 5 * y < 15 := by omega
  have la := i.gy.mr.len hr
  have e0 : tyf_T_rowOf σ (nI y) 0 = some (nI (5 * y)) := T_rowOf_v (t := 0)
  rw [T_requireYard_t hy, bX_r, e0, bR_s, R1_count_v i.gy.yd.rows (by omega), bR_s, M_isYard_t hy, bR_s, if_neg (show ¬ (1 : Int32) = 0 by decide), il5, nI_mul, chk_in hr (by decide), nI_clamp (by omega), i.gy.mr.c hr]
  by_cases hl : (L (5 * y)).length = 0
  · rw [hl, if_pos nI_0, if_pos nI_0, stp_e]
    exact i.bad (kk := 2) rfl rfl sV_eq Fr.sV Fr.rf
  have hne : ¬ nI (L (5 * y)).length = 0 := nI_ne0 (by omega) (by omega)
  rw [if_neg hne, if_neg hne, stp_e, chk_in hr (by decide), sV_a, i.gy.mr.c hr, il1, nI_sub (by omega), il6, nI_mul, nI_add, nI_sub (by omega)]
  obtain ⟨w, hw⟩ := lt_get? (l := L (5 * y)) (i := (L (5 * y)).length - 1) (by omega)
  have hwn := (i.gy.pl.1 (5 * y) (by omega)).2 w (get?_mem hw)
  have he := i.gy.mr.e hr hw
  have hidx : 6 * (5 * y) + (L (5 * y)).length - 1 = 6 * (5 * y) + ((L (5 * y)).length - 1) := by omega
  rw [R1_get_v i.gy.yd.rows (by omega) hw, bR_s, chk_in (by omega) (by decide), chk_in (by omega) (by decide), stp_e, nI_clamp (n := w) (by omega), hidx, chk_in (by omega) (by decide), nI_clamp (by omega), he, chk_in (by omega) (by decide), chk_in (by omega) (by decide), stp_e, nI_clamp (by omega), (i.gc.car w hwn).1]
  have f : Fr [29] [] σ (sW σ 29 (nI w) (-nI 1)) := Fr.sW
  have f2 : Fr [2] [0] μ (sW (sV μ 0 0) 2 (nI w) (-nI 1)) := (Fr.sV.tr Fr.sW).mono (by decide) (by decide)
  refine ⟨_, _, _, rfl, rfl, ⟨0, rfl, ?_, fun _ => rfl⟩, L, B, n, T, hh, m, c, by have := i.hk; omega, i.gy.fr f f2, ?_, i.gb.fr f f2, i.gk.fr f f2, i.gt.fr f2, i.gs.fr f f2⟩
  · rw [sW_v, sV_eq]; rfl
  · refine ⟨?_, ?_, ?_⟩
    · intro v hv
      rw [sW_eq (by omega), sW_eq (by omega), sV_a]
      by_cases hvw : v = w
      · subst hvw
        rw [upd_eq, upd_eq]
        exact ⟨rfl, Or.inl rfl⟩
      · rw [upd_ne hvw, upd_ne hvw]
        exact i.gc.car v hv
    · intro v hv hv3
      rw [sW_eq (by omega), upd_ne (by omega)]
      exact i.gc.carN v hv hv3
    · rw [f.a 30, f2.a 6]; exact i.gc.fol
/-! follow: a bit for each of four -/
theorem fol_xor : ∀ f, f < 16 → ∀ b, b < 4 → nI f ^^^ ((1 : Int32) <<< (nI b &&& 31)) = nI (f ^^^ (1 <<< b)) := by decide
theorem fol_lt : ∀ f, f < 16 → ∀ b, b < 4 → f ^^^ (1 <<< b) < 16 := by decide
theorem fol_bit : ∀ f, f < 16 → ∀ b, b < 4 → ((nI f >>> (nI b &&& 31)) &&& 1) = nI ((f >>> b) % 2) := by decide
theorem fol_same : ∀ f, f < 16 → ∀ b, b < 4 → ((f ^^^ (1 <<< b)) >>> b) % 2 = 1 - (f >>> b) % 2 := by decide
theorem fol_oth : ∀ f, f < 16 → ∀ b, b < 4 → ∀ d, d < 4 → d ≠ b → ((f ^^^ (1 <<< b)) >>> d) % 2 = (f >>> d) % 2 := by decide
theorem nar_b : ∀ x, x < 2 → decide (vp_nar .boolean (nI x) = nI x) = true := by decide
theorem op_follow {k : Nat} {σ μ : tyS} (h : Inv k σ μ) (hk : k < 512) (p1 p2 : Int32) : ∃ res v μ', tyf_T_follow σ p1 p2 = some res ∧ tyf_M_follow μ p1 p2 = some (v, μ') ∧ Ag [1] res v μ' ∧ Inv (k + 1) res.2.2 μ' := by
  obtain ⟨L, B, n, T, hh, m, c, i⟩ := h
  unfold tyf_T_follow tyf_M_follow
  by_cases hp : isIx 4 p1
  rotate_left
  · rw [T_isGrain_f hp, bR_s, if_pos rfl, M_isGrain_f hp, bR_s, if_pos rfl, stp_e]
    exact i.bad (kk := 1) rfl rfl sV_eq Fr.sV Fr.rf
  obtain ⟨a, ha, rfl⟩ := hp
  rw [T_isGrain_t ha, bR_s, if_neg (show ¬ (1 : Int32) = 0 by decide), M_isGrain_t ha, bR_s, if_neg (show ¬ (1 : Int32) = 0 by decide)]
  by_cases hq : isIx 4 p2
  rotate_left
  · rw [T_isGrain_f hq, bR_s, if_pos rfl, M_isGrain_f hq, bR_s, if_pos rfl, stp_e]
    exact i.bad (kk := 1) rfl rfl sV_eq Fr.sV Fr.rf
  obtain ⟨b, hb, rfl⟩ := hq
  rw [T_isGrain_t hb, bR_s, if_neg (show ¬ (1 : Int32) = 0 by decide), M_isGrain_t hb, bR_s, if_neg (show ¬ (1 : Int32) = 0 by decide)]
  by_cases hab : nI a = nI b
  · rw [if_pos hab, if_pos hab, stp_e]
    exact i.bad (kk := 1) rfl rfl sV_eq Fr.sV Fr.rf
  obtain ⟨f0, hf0, ef, eb⟩ := i.gc.fol a ha
  have hb2 : (f0 >>> b) % 2 < 2 := Nat.mod_lt _ (by decide)
  have mm : (if nI a = nI b then stp (sV μ 0 1) fun σ8 => some (0, σ8) else stp (sV μ 0 0) fun σ9 => chk (inb (nI a) 4) (chk (inb (nI a) 4) (stp (sW σ9 6 (nI a) ((σ9.1 6 (nI a).toNatClampNeg) ^^^ ((1 : Int32) <<< (nI b &&& 31)))) fun σ12 => chk (inb (nI a) 4) (if (((σ12.1 6 (nI a).toNatClampNeg) >>> (nI b &&& 31)) &&& 1) = 1 then some ((1 : Int32), σ12) else some (0, σ12))))) = some (nI (1 - (f0 >>> b) % 2), sW (sV μ 0 0) 6 (nI a) (nI (f0 ^^^ (1 <<< b)))) := by
    rw [if_neg hab, stp_e, chk_in ha (by decide), chk_in ha (by decide), stp_e, chk_in ha (by decide), nI_clamp (n := a) (by omega), sV_a, ef, fol_xor f0 hf0 b hb, sW_eq (by omega), upd_eq, fol_bit _ (fol_lt f0 hf0 b hb) b hb, fol_same f0 hf0 b hb]
    by_cases h0 : (f0 >>> b) % 2 = 0
    · rw [h0, if_pos (by decide)]; rfl
    · rw [show (f0 >>> b) % 2 = 1 from by omega, if_neg (by decide)]; rfl
  rw [mm, if_neg hab, il4, nI_mul, nI_add, Nat.mul_comm a 4, chk_in (by omega) (by decide), nI_clamp (n := 4 * a + b) (by omega), eb b hb]
  have key : ∀ x, x < 2 → x = 1 - (f0 >>> b) % 2 → Gc (sW σ 30 (nI (4 * a + b)) (nI x)) (sW (sV μ 0 0) 6 (nI a) (nI (f0 ^^^ (1 <<< b)))) n := by
    intro x hx hx1
    have f : Fr [30] [] σ (sW σ 30 (nI (4 * a + b)) (nI x)) := Fr.sW
    have f2 : Fr [6] [0] μ (sW (sV μ 0 0) 6 (nI a) (nI (f0 ^^^ (1 <<< b)))) := (Fr.sV.tr Fr.sW).mono (by decide) (by decide)
    refine ⟨?_, ?_, ?_⟩
    · rw [f.a 29, f2.a 2]; exact i.gc.car
    · rw [f.a 29]; exact i.gc.carN
    · intro a' ha'
      rw [sW_eq (by omega), sW_eq (by omega), sV_a]
      by_cases haa : a' = a
      · subst haa
        refine ⟨f0 ^^^ (1 <<< b), fol_lt f0 hf0 b hb, upd_eq, fun d hd => ?_⟩
        by_cases hdb : d = b
        · subst hdb
          rw [upd_eq, hx1, fol_same f0 hf0 d hd]
        · rw [upd_ne (by omega), fol_oth f0 hf0 b hb d hd hdb]
          exact eb d hd
      · obtain ⟨f1, hf1, e1, e2⟩ := i.gc.fol a' ha'
        refine ⟨f1, hf1, by rw [upd_ne haa]; exact e1, fun d hd => ?_⟩
        rw [upd_ne (by omega)]
        exact e2 d hd
  have fin : ∀ x, x < 2 → x = 1 - (f0 >>> b) % 2 → Inv (k + 1) (sW σ 30 (nI (4 * a + b)) (nI x)) (sW (sV μ 0 0) 6 (nI a) (nI (f0 ^^^ (1 <<< b)))) := by
    intro x hx hx1
    have f : Fr [30] [] σ (sW σ 30 (nI (4 * a + b)) (nI x)) := Fr.sW
    have f2 : Fr [6] [0] μ (sW (sV μ 0 0) 6 (nI a) (nI (f0 ^^^ (1 <<< b)))) := (Fr.sV.tr Fr.sW).mono (by decide) (by decide)
    exact ⟨L, B, n, T, hh, m, c, by have := i.hk; omega, i.gy.fr f f2, key x hx hx1, i.gb.fr f f2, i.gk.fr f f2, i.gt.fr f2, i.gs.fr f f2⟩
  by_cases h0 : (f0 >>> b) % 2 = 0
  · rw [h0, if_pos nI_0, chk_in (by omega) (by decide), stp_e, chk_in (by omega) (by decide), il1, sW_eq (by omega), upd_eq, nar_b 1 (by decide)]
    exact ⟨_, _, _, rfl, rfl, ⟨0, rfl, by rw [sW_v, sV_eq]; rfl, fun _ => rfl⟩, fin 1 (by decide) (by omega)⟩
  · have h1 : (f0 >>> b) % 2 = 1 := by omega
    rw [h1, if_neg (by decide), chk_in (by omega) (by decide), stp_e, chk_in (by omega) (by decide), il0, sW_eq (by omega), upd_eq, nar_b 0 (by decide)]
    exact ⟨_, _, _, rfl, rfl, ⟨0, rfl, by rw [sW_v, sV_eq], fun _ => rfl⟩, fin 0 (by decide) (by omega)⟩
theorem op_mend {k : Nat} {σ μ : tyS} (h : Inv k σ μ) (hk : k < 512) (p1 p2 p3 : Int32) : ∃ res μ', tyf_T_mend σ p1 p2 p3 = some res ∧ tyf_M_mend μ p1 p2 p3 = some μ' ∧ AgV [1, 2] res μ' ∧ Inv (k + 1) res.2.2 μ' := by
  obtain ⟨L, B, n, T, hh, m, c, i⟩ := h
  have c60 := i.gk.c60
  unfold tyf_T_mend tyf_M_mend tyf_B_trunkHas tyf_B_setTrunk
  by_cases hx : isIx 3 p1 ∧ isIx 3 p2 ∧ p1 ≠ p2 ∧ isIx 2 p3
  rotate_left
  · rw [T_requireTrunk_f hx, bX_1, M_isTrunk_f hx, bR_s, if_pos rfl, stp_e]
    exact ⟨_, _, rfl, rfl, ⟨1, (by decide : kOf [1, 2] 1 = some 1), sV_eq⟩, (i.thr 1).inv⟩
  obtain ⟨⟨a, ha, rfl⟩, ⟨b, hb, rfl⟩, hab, ⟨x, hx, rfl⟩⟩ := hx
  have hab : a ≠ b := fun e => hab (by rw [e])
  have hs6 : 2 * (a + b - 1) + x < 6 := by omega
  rw [T_requireTrunk_t ha hb hx hab, bX_r, slotOf_v ha hb hab, bR_s, chk_in hs6 (by decide), nI_clamp (by omega), bR_s, i.gk.e27, M_isTrunk_t ha hb hx hab, bR_s, if_neg (show ¬ (1 : Int32) = 0 by decide), between_v ha hb hab, bR_s, nI_add, chk_in hs6 (by decide), nI_clamp (by omega)]
  generalize hse : 2 * (a + b - 1) + x = s at hs6 ⊢
  by_cases ht : μ.1 7 s = -2
  rotate_left
  · rw [if_neg ht, if_neg ht, stp_e, chk_in hs6 (by decide)]
    exact ⟨_, _, rfl, rfl, ⟨2, (by decide : kOf [1, 2] 2 = some 2), sV_eq⟩, (i.thr 2).inv⟩
  rw [if_pos ht, if_pos ht, chk_in hs6 (by decide), stp_e, bR_s, stp_e, between_v ha hb hab, bR_s, nI_add, hse, chk_in hs6 (by decide), stp_e]
  have f : Fr [27] [] σ (sW σ 27 (nI s) (-1)) := Fr.sW
  have f2 : Fr [7] [0] μ (sW (sV μ 0 0) 7 (nI s) (-1)) := (Fr.sV.tr Fr.sW).mono (by decide) (by decide)
  refine ⟨_, _, rfl, rfl, ⟨0, rfl, by rw [sW_v, sV_eq]; rfl⟩, L, B, n, T, hh, m, c, by have := i.hk; omega, i.gy.fr f f2, i.gc.fr f f2, i.gb.fr f f2, ?_, i.gt.fr f2, i.gs.fr f f2⟩
  have e7 : (sW (sV μ 0 0) 7 (nI s) (-1)).1 7 = upd (μ.1 7) s nM := by rw [sW_eq (by omega), sV_a]
  have e27 : (sW σ 27 (nI s) (-1)).1 27 = upd (σ.1 27) s nM := by rw [sW_eq (by omega)]
  have g := i.gk
  refine ⟨?_, ?_, ?_, ?_, ?_, ?_, ?_, ?_, ?_, ?_, ?_, ?_, ?_, ?_, ?_, ?_, ?_⟩
  · exact g.sc
  · rw [f2.v 3]; exact g.mc
  · exact g.c60
  · rw [f.a 21, f2.a 9]; exact g.e21
  · rw [f.a 22, f2.a 10]; exact g.e22
  · rw [f.a 23, f2.a 12]; exact g.e23
  · rw [e7, e27, g.e27]
  · rw [f.a 28, f2.a 8]; exact g.e28
  · rw [f2.a 9]; exact g.cu
  · rw [f2.a 10]; exact g.ya
  · rw [f2.a 12]; exact g.op
  · rw [f2.a 11, f2.a 12, f2.a 13, f2.a 15, f2.a 9]; exact g.opo
  · rw [f2.a 11]; exact g.go
  · rw [f.a 26, f2.a 9, f2.a 11]; exact g.on1
  · rw [f.a 26, f2.a 9, f2.a 11]; exact g.on2
  · intro s' hs'
    rw [e7, f2.a 11]
    by_cases hss : s' = s
    · rw [hss, upd_eq]; exact Or.inl rfl
    · rw [upd_ne hss]; exact g.tr1 s' hs'
  · intro j hj h1
    rw [f2.a 11] at h1
    obtain ⟨q1, q2, q3, q4⟩ := g.tr2 j hj h1
    rw [f.a 24, f.a 25, e7]
    refine ⟨q1, q2, q3, fun s' hs' => ?_⟩
    by_cases hss : s' = s
    · subst hss
      rw [upd_eq, ← q4 s' hs', ht]
      exact ⟨fun e => absurd e (nM_nI (by omega)), fun e => absurd e.symm (nN_ne (by omega))⟩
    · rw [upd_ne hss]; exact q4 s' hs'
/-! how many calls go on to a yard -/
theorem cW_flip {P Q : Nat → Bool} {q0 : Nat} (h0 : P q0 = false) (h : ∀ q, q ≠ q0 → Q q = P q) : ∀ n, cW Q n = cW P n + (if q0 < n ∧ Q q0 = true then 1 else 0) := by
  intro n
  induction n with
  | zero => show 0 = 0 + _; rw [if_neg (by omega)]
  | succ n ih =>
    show cW Q n + (if Q n = true then 1 else 0) = (cW P n + (if P n = true then 1 else 0)) + (if q0 < n + 1 ∧ Q q0 = true then 1 else 0)
    rw [ih]
    by_cases hn : n = q0
    · subst hn
      by_cases hq : Q n = true
      · simp [hq, h0]
      · simp [hq, h0]
    · rw [h n hn]
      by_cases hlt : q0 < n
      · have h2 : q0 < n + 1 := by omega
        simp only [hlt, h2, true_and]
        omega
      · have h2 : ¬ q0 < n + 1 := by omega
        simp only [hlt, h2, false_and, if_false]
        omega
def cSt (σ μ : tyS) (p : Int32) (c q : Nat) : Bool := decide (¬ σ.1 26 q = nM ∧ (σ.1 26 q).toNatClampNeg < c ∧ μ.1 10 (σ.1 26 q).toNatClampNeg = p)
def mSt (μ : tyS) (p : Int32) (i : Nat) : Bool := decide (μ.1 11 i = nI 1 ∧ μ.1 10 i = p)
theorem calls_eq {σ μ : tyS} {m c : Nat} {p : Int32} (g : Gk σ μ m c) : ∀ d, d ≤ c → cW (mSt μ p) d = cW (cSt σ μ p d) 6 := by
  have c60 := g.c60
  intro d
  induction d with
  | zero =>
    intro _
    have h0 : ∀ q, cSt σ μ p 0 q = false := fun q => decide_eq_false (fun e => absurd e.2.1 (Nat.not_lt_zero _))
    show 0 = _
    have : cW (cSt σ μ p 0) 6 = cW (fun _ => false) 6 := cW_congr 6 (fun q _ => h0 q)
    rw [this]; rfl
  | succ d ih =>
    intro hd
    show cW (mSt μ p) d + (if mSt μ p d = true then 1 else 0) = _
    rw [ih (by omega)]
    obtain ⟨q0, hq0, eq0⟩ := g.cu d (by omega)
    have hoth : ∀ q, q < 6 → ¬ σ.1 26 q = nI d → cSt σ μ p (d + 1) q = cSt σ μ p d q := by
      intro q hq hne
      unfold cSt
      rcases g.on1 q hq with h1 | ⟨i, hi, h1, -⟩
      · rw [h1, decide_eq_false (fun e => e.1 rfl), decide_eq_false (fun e => e.1 rfl)]
      · rw [h1, nI_clamp (by omega)]
        have hid : i ≠ d := fun e => hne (by rw [h1, e])
        congr 1
        apply propext
        constructor
        · rintro ⟨e1, e2, e3⟩; exact ⟨e1, by omega, e3⟩
        · rintro ⟨e1, e2, e3⟩; exact ⟨e1, by omega, e3⟩
    rcases g.go d (by omega) with h0 | h1
    · have hm : mSt μ p d = false := decide_eq_false (fun e => by rw [h0] at e; exact absurd e.1 (by decide))
      rw [hm, if_neg Bool.false_ne_true, Nat.add_zero]
      refine cW_congr 6 (fun q hq => (hoth q hq (fun e => ?_)).symm)
      rcases g.on1 q hq with h2 | ⟨i, hi, h2, h3, h4⟩
      · rw [h2] at e; exact nM_nI (by omega) e
      · have := (nI_eq (by omega) (by omega)).mp (h2.symm.trans e)
        subst this
        rw [h0] at h4; exact absurd h4 (by decide)
    · have e26 := g.on2 d (by omega) h1 q0 hq0 eq0
      have hu : ∀ q, q < 6 → q ≠ q0 → ¬ σ.1 26 q = nI d := by
        intro q hq hne e
        rcases g.on1 q hq with h2 | ⟨i, hi, h2, h3, h4⟩
        · rw [h2] at e; exact nM_nI (by omega) e
        · have := (nI_eq (by omega) (by omega)).mp (h2.symm.trans e)
          subst this
          rw [eq0] at h3
          exact hne ((nI_eq (by omega) (by omega)).mp h3).symm
      have hz : cSt σ μ p d q0 = false := decide_eq_false (fun e => by
        have := e.2.1
        rw [e26, nI_clamp (by omega)] at this
        omega)
      have hfl := cW_flip (P := cSt σ μ p d) (Q := fun q => if q = q0 then cSt σ μ p (d + 1) q0 else cSt σ μ p d q) (q0 := q0) hz (fun q hq => if_neg hq) 6
      have hcg : cW (cSt σ μ p (d + 1)) 6 = cW (fun q => if q = q0 then cSt σ μ p (d + 1) q0 else cSt σ μ p d q) 6 := by
        refine cW_congr 6 (fun q hq => ?_)
        by_cases hqq : q = q0
        · rw [if_pos hqq, hqq]
        · rw [if_neg hqq]; exact hoth q hq (hu q hq hqq)
      rw [hcg, hfl, if_pos (rfl : q0 = q0)]
      have hb : cSt σ μ p (d + 1) q0 = mSt μ p d := by
        unfold cSt mSt
        rw [e26, nI_clamp (by omega)]
        congr 1
        apply propext
        constructor
        · rintro ⟨-, -, e3⟩; exact ⟨h1, e3⟩
        · rintro ⟨-, e3⟩; exact ⟨nI_nM (by omega), by omega, e3⟩
      rw [hb]
      by_cases hm : mSt μ p d = true
      · rw [if_pos hm, if_pos ⟨hq0, hm⟩]
      · rw [if_neg hm, if_neg (fun e => hm e.2)]
theorem T_callsTo_v {σ μ : tyS} {m c : Nat} {p : Int32} (g : Gk σ μ m c) : tyf_B_callsTo σ p = some (nI (cW (cSt σ μ p c) 6)) := by
  have c60 := g.c60
  have lp : ∀ (d j f : Nat), 6 - j = d → j ≤ 6 → d < f → tyl_B_callsTo_4 σ (fun x1 x2 x3 => some x2) f p (nI (cW (cSt σ μ p c) j)) (nI j) = some (nI (cW (cSt σ μ p c) 6)) := by
    intro d
    induction d with
    | zero =>
      intro j f hd hj hf
      obtain ⟨f, rfl⟩ : ∃ g, f = g + 1 := ⟨f - 1, by omega⟩
      have : j = 6 := by omega
      subst this
      show tyb_B_callsTo_4 _ _ _ _ _ _ = _
      unfold tyb_B_callsTo_4
      rw [il6, if_pos (nI_le (by omega) (by omega))]
    | succ d ih =>
      intro j f hd hj hf
      obtain ⟨f, rfl⟩ : ∃ g, f = g + 1 := ⟨f - 1, by omega⟩
      have hs := ih (j + 1) f (by omega) (by omega) (by omega)
      show tyb_B_callsTo_4 _ _ _ _ _ _ = _
      unfold tyb_B_callsTo_4
      rw [il6, if_neg (nI_ge (by omega) (by omega)), chk_in (by omega) (by decide), nI_clamp (n := j) (by omega)]
      have hW : cW (cSt σ μ p c) (j + 1) = cW (cSt σ μ p c) j + (if cSt σ μ p c j = true then 1 else 0) := rfl
      rcases g.on1 j (by omega) with h1 | ⟨i, hi, h1, -⟩
      · have : cSt σ μ p c j = false := decide_eq_false (fun e => e.1 h1)
        rw [this, if_neg Bool.false_ne_true, Nat.add_zero] at hW
        rw [hW] at hs
        rw [if_pos h1, il1, nI_add]
        exact hs
      · rw [if_neg (by rw [h1]; exact nI_nM (by omega)), h1, chk_in (by omega) (by decide), nI_clamp (by omega), g.e22]
        by_cases hy : μ.1 10 i = p
        · have : cSt σ μ p c j = true := decide_eq_true ⟨by rw [h1]; exact nI_nM (by omega), by rw [h1, nI_clamp (by omega)]; exact hi, by rw [h1, nI_clamp (by omega)]; exact hy⟩
          rw [this, if_pos rfl] at hW
          rw [hW] at hs
          rw [if_pos hy, il1, nI_add, nI_add]
          exact hs
        · have : cSt σ μ p c j = false := decide_eq_false (fun e => hy (by have := e.2.2; rw [h1, nI_clamp (by omega)] at this; exact this))
          rw [this, if_neg Bool.false_ne_true, Nat.add_zero] at hW
          rw [hW] at hs
          rw [if_neg hy, il1, nI_add]
          exact hs
  unfold tyf_B_callsTo
  exact lp 6 0 64 (by omega) (by omega) (by omega)
theorem M_callsTo_v {σ μ : tyS} {m c : Nat} {p : Int32} (g : Gk σ μ m c) : tyf_M_callsTo μ p = some (nI (cW (mSt μ p) c)) := by
  have c60 := g.c60
  have lp : ∀ (d j f : Nat), c - j = d → j ≤ c → d < f → tyl_M_callsTo_4 μ (fun x1 x2 x3 => some x2) f p (nI (cW (mSt μ p) j)) (nI j) = some (nI (cW (mSt μ p) c)) := by
    intro d
    induction d with
    | zero =>
      intro j f hd hj hf
      obtain ⟨f, rfl⟩ : ∃ g, f = g + 1 := ⟨f - 1, by omega⟩
      have : j = c := by omega
      subst this
      show tyb_M_callsTo_4 _ _ _ _ _ _ = _
      unfold tyb_M_callsTo_4
      rw [g.mc, if_pos (nI_le (by omega) (by omega))]
    | succ d ih =>
      intro j f hd hj hf
      obtain ⟨f, rfl⟩ : ∃ g, f = g + 1 := ⟨f - 1, by omega⟩
      have hs := ih (j + 1) f (by omega) (by omega) (by omega)
      show tyb_M_callsTo_4 _ _ _ _ _ _ = _
      unfold tyb_M_callsTo_4
      rw [g.mc, if_neg (nI_ge (by omega) (by omega)), chk_in (by omega) (by decide), chk_in (by omega) (by decide), nI_clamp (n := j) (by omega)]
      have hW : cW (mSt μ p) (j + 1) = cW (mSt μ p) j + (if mSt μ p j = true then 1 else 0) := rfl
      rcases g.go j (by omega) with h1 | h1
      · have : mSt μ p j = false := decide_eq_false (fun e => by rw [h1] at e; exact absurd e.1 (by decide))
        rw [this, if_neg Bool.false_ne_true] at hW
        rw [hW] at hs
        rw [h1, if_pos nI_0, il1, il0, nI_add, nI_add]
        exact hs
      · rw [h1, if_neg (by decide)]
        by_cases hy : μ.1 10 j = p
        · have : mSt μ p j = true := decide_eq_true ⟨h1, hy⟩
          rw [this, if_pos rfl] at hW
          rw [hW] at hs
          rw [if_pos hy, il1, nI_add, nI_add]
          exact hs
        · have : mSt μ p j = false := decide_eq_false (fun e => hy e.2)
          rw [this, if_neg Bool.false_ne_true] at hW
          rw [hW] at hs
          rw [if_neg hy, il1, il0, nI_add, nI_add]
          exact hs
  unfold tyf_M_callsTo
  exact lp c 0 64 (by omega) (by omega) (by omega)
theorem callsTo_v {σ μ : tyS} {m c : Nat} (g : Gk σ μ m c) (p : Int32) : ∃ v, v ≤ 6 ∧ tyf_B_callsTo σ p = some (nI v) ∧ tyf_M_callsTo μ p = some (nI v) :=
  ⟨_, cW_le _ _, T_callsTo_v g, by rw [← calls_eq g c (Nat.le_refl _)]; exact M_callsTo_v g⟩
theorem M_in_03 {σ : tyS} {p : Int32} : tyf_M_in σ p 0 3 = some (if p < 0 then 0 else if 3 < p then 0 else 1) := by
  unfold tyf_M_in
  by_cases h1 : p < 0
  · rw [if_pos h1, if_pos h1]
  · rw [if_neg h1, if_neg h1]
    by_cases h2 : 3 < p
    · rw [if_pos h2, if_pos h2]
    · rw [if_neg h2, if_neg h2]
theorem op_setLines {k : Nat} {σ μ : tyS} (h : Inv k σ μ) (hk : k < 512) (p1 p2 : Int32) : ∃ res v μ', tyf_T_setLines σ p1 p2 = some res ∧ tyf_M_setLines μ p1 p2 = some (v, μ') ∧ Ag [1, 2] res v μ' ∧ Inv (k + 1) res.2.2 μ' := by
  obtain ⟨L, B, n, T, hh, m, c, i⟩ := h
  unfold tyf_T_setLines tyf_M_setLines tyf_B_changeLines
  by_cases hp : isIx 3 p1
  rotate_left
  · rw [T_requireYard_f hp, bX_1, M_isYard_f hp, bR_s, if_pos rfl, stp_e]
    exact i.bad (kk := 1) rfl rfl sV_eq Fr.sV Fr.rf
  obtain ⟨y, hy, rfl⟩ := hp
  obtain ⟨v, hv, v1, v2⟩ := callsTo_v i.gk (nI y)
  rw [T_requireYard_t hy, bX_r, M_isYard_t hy, bR_s, if_neg (show ¬ (1 : Int32) = 0 by decide), M_in_03, bR_s, v1, bR_s, v2, bR_s]
  by_cases h1 : p2 < 0
  · rw [if_pos h1, if_pos h1, if_pos rfl, stp_e]
    exact i.bad (kk := 1) rfl rfl sV_eq Fr.sV Fr.rf
  rw [if_neg h1, if_neg h1]
  by_cases h6 : p2 ≤ 3
  rotate_left
  · rw [if_neg h6, if_pos (Int32.not_le.mp h6), if_pos rfl, stp_e]
    exact i.bad (kk := 1) rfl rfl sV_eq Fr.sV Fr.rf
  rw [if_pos h6, if_neg (Int32.not_lt.mpr h6), if_neg (show ¬ (1 : Int32) = 0 by decide)]
  by_cases h2 : nI v ≤ p2
  rotate_left
  · rw [if_neg h2, if_neg h2, stp_e]
    exact i.bad (kk := 2) rfl rfl sV_eq Fr.sV Fr.rf
  rw [if_pos h2, if_pos h2, stp_e, chk_in hy (by decide), chk_in hy (by decide), stp_e, bN_s, chk_in hy (by decide), chk_in hy (by decide), stp_e, nI_clamp (by omega), sV_a, i.gk.e28]
  have f : Fr [28] [] σ (sW σ 28 (nI y) p2) := Fr.sW
  have f2 : Fr [8] [0] μ (sW (sV μ 0 0) 8 (nI y) p2) := (Fr.sV.tr Fr.sW).mono (by decide) (by decide)
  refine ⟨_, _, _, rfl, rfl, ⟨0, rfl, by rw [sW_v, sV_eq]; rfl, fun _ => rfl⟩, L, B, n, T, hh, m, c, by have := i.hk; omega, i.gy.fr f f2, i.gc.fr f f2, i.gb.fr f f2, ?_, i.gt.fr f2, i.gs.fr f f2⟩
  have g := i.gk
  refine ⟨?_, ?_, ?_, ?_, ?_, ?_, ?_, ?_, ?_, ?_, ?_, ?_, ?_, ?_, ?_, ?_, ?_⟩
  · exact g.sc
  · rw [f2.v 3]; exact g.mc
  · exact g.c60
  · rw [f.a 21, f2.a 9]; exact g.e21
  · rw [f.a 22, f2.a 10]; exact g.e22
  · rw [f.a 23, f2.a 12]; exact g.e23
  · rw [f.a 27, f2.a 7]; exact g.e27
  · rw [sW_eq (by omega), sW_eq (by omega), sV_a, g.e28]
  · rw [f2.a 9]; exact g.cu
  · rw [f2.a 10]; exact g.ya
  · rw [f2.a 12]; exact g.op
  · rw [f2.a 11, f2.a 12, f2.a 13, f2.a 15, f2.a 9]; exact g.opo
  · rw [f2.a 11]; exact g.go
  · rw [f.a 26, f2.a 9, f2.a 11]; exact g.on1
  · rw [f.a 26, f2.a 9, f2.a 11]; exact g.on2
  · rw [f2.a 7, f2.a 11]; exact g.tr1
  · rw [f.a 24, f.a 25, f2.a 7, f2.a 11]; exact g.tr2
