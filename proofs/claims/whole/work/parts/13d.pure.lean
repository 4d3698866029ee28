/-! ===== the pure part: the history and its replay ===== -/
def rp (f g m : Nat → Int32) : Nat → (Nat → List Nat) → Prop
  | 0, L => ∀ r, r < 55 → L r = []
  | h + 1, L' => ∃ L, rp f g m h L ∧ ((∃ r w, r < 55 ∧ (L r).length < 6 ∧ f h = nM ∧ g h = nI r ∧ m h = nI w ∧ L' = setL L r (L r ++ [w])) ∨ ∃ a b x, a < 55 ∧ b < 55 ∧ a ≠ b ∧ x ≤ (L a).length ∧ (L b).length + x ≤ 6 ∧ f h = nI a ∧ g h = nI b ∧ m h = nI x ∧ L' = mv L a b x)
theorem rp.congr {f g m f2 g2 m2 : Nat → Int32} : ∀ (h : Nat) (L : Nat → List Nat), (∀ i, i < h → f2 i = f i) → (∀ i, i < h → g2 i = g i) → (∀ i, i < h → m2 i = m i) → rp f g m h L → rp f2 g2 m2 h L := by
  intro h
  induction h with
  | zero => intro L _ _ _ h; exact h
  | succ h ih =>
    intro L' hf hg hm q
    obtain ⟨L, hL, q⟩ := q
    have hL2 := ih L (fun i hi => hf i (by omega)) (fun i hi => hg i (by omega)) (fun i hi => hm i (by omega)) hL
    refine ⟨L, hL2, ?_⟩
    rw [hf h (by omega), hg h (by omega), hm h (by omega)]
    exact q
/-- a note at h -/
theorem rp.put {f g m : Nat → Int32} {h r w : Nat} {L : Nat → List Nat} (q : rp f g m h L) (hr : r < 55) (hl : (L r).length < 6) : rp (upd f h nM) (upd g h (nI r)) (upd m h (nI w)) (h + 1) (setL L r (L r ++ [w])) := by
  refine ⟨L, q.congr h L (fun i hi => upd_ne (by omega)) (fun i hi => upd_ne (by omega)) (fun i hi => upd_ne (by omega)), Or.inl ⟨r, w, hr, hl, upd_eq, upd_eq, upd_eq, rfl⟩⟩
theorem rp.mv {f g m : Nat → Int32} {h a b x : Nat} {L : Nat → List Nat} (q : rp f g m h L) (ha : a < 55) (hb : b < 55) (hab : a ≠ b) (hx : x ≤ (L a).length) (hl : (L b).length + x ≤ 6) : rp (upd f h (nI a)) (upd g h (nI b)) (upd m h (nI x)) (h + 1) (mv L a b x) := by
  refine ⟨L, q.congr h L (fun i hi => upd_ne (by omega)) (fun i hi => upd_ne (by omega)) (fun i hi => upd_ne (by omega)), Or.inr ⟨a, b, x, ha, hb, hab, hx, hl, upd_eq, upd_eq, upd_eq, rfl⟩⟩
theorem noteMove_v {σ : tyS} {p q r : Int32} {h : Nat} (hs : σ.2 4 = nI h) (hh : h < 512) : ∃ τ, tyf_H_noteMove σ p q r = some τ ∧ Fr [10, 11, 12] [4] σ τ ∧ τ.1 10 = upd (σ.1 10) h p ∧ τ.1 11 = upd (σ.1 11) h q ∧ τ.1 12 = upd (σ.1 12) h r ∧ τ.2 4 = nI (h + 1) := by
  unfold tyf_H_noteMove
  rw [il512, hs, if_neg (nI_ge hh (by decide)), chk_in hh (by decide), stp_e, sW_v, hs, chk_in hh (by decide), stp_e, sW_v, sW_v, hs, chk_in hh (by decide), stp_e, sW_v, sW_v, sW_v, hs, il1, nI_add, stp_e]
  refine ⟨_, rfl, (((Fr.sW.tr Fr.sW).tr Fr.sW).tr Fr.sV).mono (by decide) (by decide), ?_, ?_, ?_, sV_eq⟩
  · rw [sV_a, sW_ne (by decide), sW_ne (by decide), sW_eq (by omega)]
  · rw [sV_a, sW_ne (by decide), sW_eq (by omega), sW_ne (by decide)]
  · rw [sV_a, sW_eq (by omega), sW_ne (by decide), sW_ne (by decide)]
theorem notePlacing_v {σ : tyS} {q r : Int32} {h : Nat} (hs : σ.2 4 = nI h) (hh : h < 512) : ∃ τ, tyf_H_notePlacing σ q r = some τ ∧ Fr [10, 11, 12] [4] σ τ ∧ τ.1 10 = upd (σ.1 10) h nM ∧ τ.1 11 = upd (σ.1 11) h q ∧ τ.1 12 = upd (σ.1 12) h r ∧ τ.2 4 = nI (h + 1) := by
  unfold tyf_H_notePlacing
  obtain ⟨τ, h1, h2⟩ := noteMove_v (p := -1) (q := q) (r := r) hs hh
  rw [h1, bR_s]
  exact ⟨τ, rfl, h2⟩
/-- the class's rows and their history -/
abbrev Yd (σ : tyS) (L : Nat → List Nat) (h : Nat) : Prop := (Rows (σ.1 6) (σ.1 7) 55 L) ∧ (σ.2 4 = nI h) ∧ (rp (σ.1 10) (σ.1 11) (σ.1 12) h L)
theorem Yd.rows {σ : tyS} {L : Nat → List Nat} {h : Nat} (g9 : Yd σ L h) : Rows (σ.1 6) (σ.1 7) 55 L := (And.left g9)
theorem Yd.hs {σ : tyS} {L : Nat → List Nat} {h : Nat} (g9 : Yd σ L h) : σ.2 4 = nI h := (And.left (And.right g9))
theorem Yd.his {σ : tyS} {L : Nat → List Nat} {h : Nat} (g9 : Yd σ L h) : rp (σ.1 10) (σ.1 11) (σ.1 12) h L := (And.right (And.right g9))
theorem moveLast_v {σ : tyS} {L : Nat → List Nat} {h a b x : Nat} (y : Yd σ L h) (hh : h < 512) (ha : a < 55) (hb : b < 55) (hab : a ≠ b) (hx : x ≤ (L a).length) (hl : (L b).length + x ≤ 6) : ∃ τ, tyf_T_moveLast σ (nI a) (nI b) (nI x) = some τ ∧ Fr [6, 7, 10, 11, 12] [4] σ τ ∧ Yd τ (mv L a b x) (h + 1) := by
  unfold tyf_T_moveLast
  obtain ⟨τ, h1, h2, h3⟩ := R1_move_v y.rows ha hb hab hx hl
  rw [h1, bR_s]
  obtain ⟨υ, g1, g2, g3, g4, g5, g6⟩ := noteMove_v (p := nI a) (q := nI b) (r := nI x) ((h2.v 4).trans y.hs) hh
  rw [g1, bR_s]
  refine ⟨υ, rfl, (h2.tr g2).mono (by decide) (by decide), ?_, g6, ?_⟩
  · rw [g2.a 6, g2.a 7]; exact h3
  · rw [g3, g4, g5, h2.a 10, h2.a 11, h2.a 12]
    exact y.his.mv ha hb hab hx hl
theorem place_v {σ : tyS} {L : Nat → List Nat} {h r w : Nat} (y : Yd σ L h) (hh : h < 512) (hr : r < 55) (hl : (L r).length < 6) : ∃ τ, (bR (tyf_R1_put σ (nI r) (nI w)) fun σ8 => bR (tyf_H_notePlacing σ8 (nI r) (nI w)) fun σ9 => some σ9) = some τ ∧ Fr [6, 7, 10, 11, 12] [4] σ τ ∧ Yd τ (setL L r (L r ++ [w])) (h + 1) := by
  obtain ⟨τ, h1, h2, h3⟩ := R1_put_v (w := w) y.rows hr hl
  rw [h1, bR_s]
  obtain ⟨υ, g1, g2, g3, g4, g5, g6⟩ := notePlacing_v (q := nI r) (r := nI w) ((h2.v 4).trans y.hs) hh
  rw [g1, bR_s]
  refine ⟨υ, rfl, (h2.tr g2).mono (by decide) (by decide), ?_, g6, ?_⟩
  · rw [g2.a 6, g2.a 7]; exact h3
  · rw [g3, g4, g5, h2.a 10, h2.a 11, h2.a 12]
    exact y.his.put hr hl
theorem replay_lp {σ σ1 : tyS} {K : tyS → Int32 → Option tyS} {F H : Nat} (hF : H < F) (hH : H ≤ 512) (hs : σ1.2 4 = nI H) (h0 : Rows (σ1.1 8) (σ1.1 9) 55 (fun _ => [])) : ∀ (j : Nat) (L : Nat → List Nat), j ≤ H → rp (σ1.1 10) (σ1.1 11) (σ1.1 12) j L → ∃ τ, tyl_H_replay_6 K F σ1 0 = tyl_H_replay_6 K (F - j) τ (nI j) ∧ Fr [8, 9] [] σ1 τ ∧ Rows (τ.1 8) (τ.1 9) 55 L := by
  intro j
  induction j with
  | zero =>
    intro L _ hL
    refine ⟨σ1, rfl, Fr.rf, fun r hr => ?_⟩
    rw [hL r hr]
    exact h0 r hr
  | succ j ih =>
    intro L' hj q
    obtain ⟨L, hL, q⟩ := q
    obtain ⟨τ, h1, h2, h3⟩ := ih L (by omega) hL
    rw [h1]
    obtain ⟨G, hG⟩ : ∃ G, F - j = G + 1 := ⟨F - j - 1, by omega⟩
    have hG2 : F - (j + 1) = G := by omega
    rw [hG, hG2]
    rcases q with ⟨r, w, hr, hl, e1, e2, e3, rfl⟩ | ⟨a, b, x, ha, hb, hab, hx, hl, e1, e2, e3, rfl⟩
    · obtain ⟨υ, g1, g2, g3⟩ := R2_put_v (w := w) h3 hr hl
      refine ⟨υ, ?_, (h2.tr g2).mono (by decide) (by decide), g3⟩
      show tyb_H_replay_6 _ _ _ _ = _
      unfold tyb_H_replay_6
      rw [h2.v 4, hs, if_neg (nI_ge (by omega) (by omega)), chk_in (by omega) (by decide), nI_clamp (by omega), h2.a 10, e1, if_pos rfl, chk_in (by omega) (by decide), chk_in (by omega) (by decide), h2.a 11, h2.a 12, e2, e3, g1, bR_s, il1, nI_add]
    · obtain ⟨υ, g1, g2, g3⟩ := R2_move_v h3 ha hb hab hx hl
      refine ⟨υ, ?_, (h2.tr g2).mono (by decide) (by decide), g3⟩
      show tyb_H_replay_6 _ _ _ _ = _
      unfold tyb_H_replay_6
      rw [h2.v 4, hs, if_neg (nI_ge (by omega) (by omega)), chk_in (by omega) (by decide), nI_clamp (by omega), h2.a 10, e1, if_neg (nI_nM (by omega)), chk_in (by omega) (by decide), chk_in (by omega) (by decide), chk_in (by omega) (by decide), h2.a 11, h2.a 12, e2, e3, g1, bR_s, il1, nI_add]
theorem replay_v {σ : tyS} {L : Nat → List Nat} {h : Nat} (y : Yd σ L h) (hh : h ≤ 512) : ∃ τ, tyf_H_replay σ = some τ ∧ Fr [8, 9] [] σ τ ∧ Rows (τ.1 8) (τ.1 9) 55 L := by
  unfold tyf_H_replay tyf_R2_clear
  rw [stp_e, bR_s]
  have hf : Fr [8] [] σ (sA σ 8 (tyFill (σ.1 8) 55 0)) := ⟨fun b hb => sA_ne (fun e => hb (by rw [e]; exact List.mem_singleton.mpr rfl)), fun _ _ => rfl⟩
  obtain ⟨τ, h1, h2, h3⟩ := replay_lp (σ := σ) (σ1 := sA σ 8 (tyFill (σ.1 8) 55 0)) (K := fun σ0 x2 => some σ0) (F := 520) (H := h) (by omega) hh ((hf.v 4).trans y.hs) (by
    intro r hr
    refine ⟨Nat.zero_le _, ?_, fun i x hx => ?_⟩
    · rw [sA_eq]; unfold tyFill; rw [if_pos hr]; rfl
    · simp at hx) h L (Nat.le_refl _) (by rw [hf.a 10, hf.a 11, hf.a 12]; exact y.his)
  refine ⟨τ, ?_, (hf.tr h2).mono (by decide) (by decide), h3⟩
  rw [h1]
  obtain ⟨G, hG⟩ : ∃ G, 520 - h = G + 1 := ⟨520 - h - 1, by omega⟩
  rw [hG]
  show tyb_H_replay_6 _ _ _ _ = _
  unfold tyb_H_replay_6
  rw [h2.v 4, (hf.v 4).trans y.hs, if_pos (nI_le (Nat.le_refl _) (by omega))]
