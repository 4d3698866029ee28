/-! ===== the pure part: call ===== -/
def occ (f : Nat → Int32) (x v : Int32) : Nat → Int32 := if x = nM then f else upd f x.toNatClampNeg v
theorem occ_M {f : Nat → Int32} {v : Int32} : occ f nM v = f := if_pos rfl
theorem occ_n {f : Nat → Int32} {s : Nat} {v : Int32} (h : s < 2 ^ 31) : occ f (nI s) v = upd f s v := by unfold occ; rw [if_neg (nI_nM h), nI_clamp h]
/-- a trunk to take: none, or a free one -/
def Fre (f : Nat → Int32) (x : Int32) : Prop := x = nM ∨ ∃ s, s < 6 ∧ x = nI s ∧ f s = nM
theorem occ2_iff {f : Nat → Int32} {s1 s2 : Int32} {c s : Nat} (h1 : Fre f s1) (h2 : Fre f s2) (hc : c < 60) (hs : s < 6) (hf : f s ≠ nI c) : (occ (occ f s1 (nI c)) s2 (nI c) s = nI c ↔ (s1 = nI s ∨ s2 = nI s)) ∧ (¬ (s1 = nI s ∨ s2 = nI s) → occ (occ f s1 (nI c)) s2 (nI c) s = f s) := by
  rcases h1 with rfl | ⟨a, ha, rfl, -⟩ <;> rcases h2 with rfl | ⟨b, hb, rfl, -⟩
  · rw [occ_M, occ_M]
    exact ⟨⟨fun e => absurd e hf, fun e => by rcases e with e | e <;> exact absurd e (nM_nI (by omega))⟩, fun _ => rfl⟩
  · rw [occ_M, occ_n (by omega)]
    by_cases hsb : s = b
    · subst hsb
      rw [upd_eq]
      exact ⟨⟨fun _ => Or.inr rfl, fun _ => rfl⟩, fun h => absurd (Or.inr rfl) h⟩
    · rw [upd_ne hsb]
      refine ⟨⟨fun e => absurd e hf, fun e => ?_⟩, fun _ => rfl⟩
      rcases e with e | e
      · exact absurd e (nM_nI (by omega))
      · exact absurd ((nI_eq (by omega) (by omega)).mp e).symm hsb
  · rw [occ_M, occ_n (by omega)]
    by_cases hsb : s = a
    · subst hsb
      rw [upd_eq]
      exact ⟨⟨fun _ => Or.inl rfl, fun _ => rfl⟩, fun h => absurd (Or.inl rfl) h⟩
    · rw [upd_ne hsb]
      refine ⟨⟨fun e => absurd e hf, fun e => ?_⟩, fun _ => rfl⟩
      rcases e with e | e
      · exact absurd ((nI_eq (by omega) (by omega)).mp e).symm hsb
      · exact absurd e (nM_nI (by omega))
  · rw [occ_n (by omega), occ_n (by omega)]
    by_cases hsb : s = b
    · subst hsb
      rw [upd_eq]
      exact ⟨⟨fun _ => Or.inr rfl, fun _ => rfl⟩, fun h => absurd (Or.inr rfl) h⟩
    · rw [upd_ne hsb]
      by_cases hsa : s = a
      · subst hsa
        rw [upd_eq]
        exact ⟨⟨fun _ => Or.inl rfl, fun _ => rfl⟩, fun h => absurd (Or.inl rfl) h⟩
      · rw [upd_ne hsa]
        refine ⟨⟨fun e => absurd e hf, fun e => ?_⟩, fun _ => rfl⟩
        rcases e with e | e
        · exact absurd ((nI_eq (by omega) (by omega)).mp e).symm hsa
        · exact absurd ((nI_eq (by omega) (by omega)).mp e).symm hsb
theorem occupy_v {σ : tyS} {f : Nat → Int32} {x v : Int32} (h : Fre f x) : ∃ τ, tyf_B_occupy σ x v = some τ ∧ Fr [27] [] σ τ ∧ τ.1 27 = occ (σ.1 27) x v := by
  unfold tyf_B_occupy
  rcases h with rfl | ⟨s, hs, rfl, -⟩
  · rw [if_pos rfl, occ_M]
    exact ⟨_, rfl, Fr.rf, rfl⟩
  · rw [if_neg (nI_nM (by omega)), chk_in hs (by decide), stp_e, occ_n (by omega)]
    exact ⟨_, rfl, Fr.sW, by rw [sW_eq (by omega)]⟩
theorem connect_v {σ : tyS} {f : Nat → Int32} {c q y : Nat} {s1 s2 : Int32} (sc : σ.2 6 = nI c) (hc : c < 60) (hq : q < 6) (h1 : Fre f s1) (h2 : Fre f s2) : ∃ τ, tyf_B_connect σ (nI q) (nI y) s1 s2 = some (nI c, τ) ∧ Fr [21, 22, 23, 24, 25, 26, 27] [6] σ τ ∧ τ.2 6 = nI (c + 1) ∧ τ.1 21 = upd (σ.1 21) c (nI q) ∧ τ.1 22 = upd (σ.1 22) c (nI y) ∧ τ.1 23 = upd (σ.1 23) c nM ∧ τ.1 24 = upd (σ.1 24) c s1 ∧ τ.1 25 = upd (σ.1 25) c s2 ∧ τ.1 26 = upd (σ.1 26) q (nI c) ∧ τ.1 27 = occ (occ (σ.1 27) s1 (nI c)) s2 (nI c) := by
  unfold tyf_B_connect
  rw [stp_e, sc, chk_in hc (by decide), stp_e, chk_in hc (by decide), stp_e, chk_in hc (by decide), stp_e, chk_in hc (by decide), stp_e, chk_in hc (by decide), stp_e, chk_in hq (by decide), stp_e, il1, nI_add]
  generalize hρ : sW (sW (sW (sW (sW (sW (sV σ 6 (nI (c + 1))) 21 (nI c) (nI q)) 22 (nI c) (nI y)) 23 (nI c) (-nI 1)) 24 (nI c) s1) 25 (nI c) s2) 26 (nI q) (nI c) = ρ
  have fρ : Fr [21, 22, 23, 24, 25, 26] [6] σ ρ := by rw [← hρ]; exact ((((((Fr.sV.tr Fr.sW).tr Fr.sW).tr Fr.sW).tr Fr.sW).tr Fr.sW).tr Fr.sW).mono (by decide) (by decide)
  obtain ⟨τ, t1, t2, t3⟩ := occupy_v (σ := ρ) (v := nI c) h1
  obtain ⟨υ, u1, u2, u3⟩ := occupy_v (σ := τ) (v := nI c) h2
  rw [t1, bR_s, u1, bR_s]
  have ft : Fr [27] [] ρ υ := (t2.tr u2).mono (by decide) (by decide)
  refine ⟨υ, rfl, (fρ.tr ft).mono (by decide) (by decide), ?_, ?_, ?_, ?_, ?_, ?_, ?_, ?_⟩
  · rw [ft.v 6, ← hρ, sW_v, sW_v, sW_v, sW_v, sW_v, sW_v, sV_eq]
  · rw [ft.a 21, ← hρ, sW_ne (by decide), sW_ne (by decide), sW_ne (by decide), sW_ne (by decide), sW_ne (by decide), sW_eq (by omega), sV_a]
  · rw [ft.a 22, ← hρ, sW_ne (by decide), sW_ne (by decide), sW_ne (by decide), sW_ne (by decide), sW_eq (by omega), sW_ne (by decide), sV_a]
  · rw [ft.a 23, ← hρ, sW_ne (by decide), sW_ne (by decide), sW_ne (by decide), sW_eq (by omega), sW_ne (by decide), sW_ne (by decide), sV_a]
    rfl
  · rw [ft.a 24, ← hρ, sW_ne (by decide), sW_ne (by decide), sW_eq (by omega), sW_ne (by decide), sW_ne (by decide), sW_ne (by decide), sV_a]
  · rw [ft.a 25, ← hρ, sW_ne (by decide), sW_eq (by omega), sW_ne (by decide), sW_ne (by decide), sW_ne (by decide), sW_ne (by decide), sV_a]
  · rw [ft.a 26, ← hρ, sW_eq (by omega), sW_ne (by decide), sW_ne (by decide), sW_ne (by decide), sW_ne (by decide), sW_ne (by decide), sV_a]
  · rw [u3, t3, fρ.a 27]
theorem Gk.begin {σ μ σ' μ' : tyS} {m c q y : Nat} {s1 s2 : Int32} {as vs bs us : List Nat} (g : Gk σ μ m c) (m40 : m ≤ 40) (hc : c < 60) (hq : q < 6) (hy : y < 3) (e26q : σ.1 26 q = nM) (h1 : Fre (μ.1 7) s1) (h2 : Fre (μ.1 7) s2) (h12 : s1 = nM ∨ s1 ≠ s2) (f : Fr as vs σ σ') (f2 : Fr bs us μ μ') (c1 : σ'.2 6 = nI (c + 1)) (c2 : μ'.2 3 = nI (c + 1)) (a21 : σ'.1 21 = upd (σ.1 21) c (nI q)) (a22 : σ'.1 22 = upd (σ.1 22) c (nI y)) (a23 : σ'.1 23 = upd (σ.1 23) c nM) (a24 : σ'.1 24 = upd (σ.1 24) c s1) (a25 : σ'.1 25 = upd (σ.1 25) c s2) (a26 : σ'.1 26 = upd (σ.1 26) q (nI c)) (a27 : σ'.1 27 = occ (occ (σ.1 27) s1 (nI c)) s2 (nI c)) (b7 : μ'.1 7 = occ (occ (μ.1 7) s1 (nI c)) s2 (nI c)) (b9 : μ'.1 9 = upd (μ.1 9) c (nI q)) (b10 : μ'.1 10 = upd (μ.1 10) c (nI y)) (b11 : μ'.1 11 = upd (μ.1 11) c 1) (b12 : μ'.1 12 = upd (μ.1 12) c nM) (d1 : dis as [28] = true := by decide) (d3 : dis bs [8, 13, 15] = true := by decide) : Gk σ' μ' m (c + 1) := by
  have lt : ∀ i, i < c + 1 → i ≠ c → i < c := fun i h1 h2 => by omega
  have nf : ∀ s, s < 6 → μ.1 7 s ≠ nI c := by
    intro s hs e
    rcases g.tr1 s hs with h | h | ⟨i, hi, h, -⟩
    · rw [h] at e; exact nM_nI (by omega) e
    · rw [h] at e; exact nN_ne (by omega) e.symm
    · rw [h] at e
      have := (nI_eq (by omega) (by omega)).mp e
      omega
  have nine : ∀ i, i < c → i ≠ c := fun i h => by omega
  refine ⟨?_, ?_, ?_, ?_, ?_, ?_, ?_, ?_, ?_, ?_, ?_, ?_, ?_, ?_, ?_, ?_, ?_⟩
  · exact c1
  · exact c2
  · omega
  · rw [a21, b9, g.e21]
  · rw [a22, b10, g.e22]
  · rw [a23, b12, g.e23]
  · rw [a27, b7, g.e27]
  · rw [f.ad d1 (a := 28) (by decide), f2.ad d3 (a := 8) (by decide)]; exact g.e28
  · intro i hi
    rw [b9]
    by_cases hic : i = c
    · rw [hic, upd_eq]; exact ⟨q, hq, rfl⟩
    · rw [upd_ne hic]; exact g.cu i (lt i hi hic)
  · intro i hi
    rw [b10]
    by_cases hic : i = c
    · rw [hic, upd_eq]; exact ⟨y, hy, rfl⟩
    · rw [upd_ne hic]; exact g.ya i (lt i hi hic)
  · intro i hi
    rw [b12]
    by_cases hic : i = c
    · rw [hic, upd_eq]; exact Or.inl rfl
    · rw [upd_ne hic]; exact g.op i (lt i hi hic)
  · intro i hi
    rw [b11, b12, b9, f2.ad d3 (a := 13) (by decide), f2.ad d3 (a := 15) (by decide)]
    by_cases hic : i = c
    · rw [hic, upd_eq, upd_eq, upd_eq]
      intro _ b hb e
      exact absurd e (nM_nI (by omega))
    · rw [upd_ne hic, upd_ne hic, upd_ne hic]; exact g.opo i (lt i hi hic)
  · intro i hi
    rw [b11]
    by_cases hic : i = c
    · rw [hic, upd_eq]; exact Or.inr rfl
    · rw [upd_ne hic]; exact g.go i (lt i hi hic)
  · intro q' hq'
    rw [a26, b9, b11]
    by_cases hqq : q' = q
    · rw [hqq, upd_eq]
      exact Or.inr ⟨c, by omega, rfl, by rw [upd_eq], by rw [upd_eq]; rfl⟩
    · rw [upd_ne hqq]
      rcases g.on1 q' hq' with h | ⟨i, hi, e1, e2, e3⟩
      · exact Or.inl h
      · exact Or.inr ⟨i, by omega, e1, by rw [upd_ne (nine i hi)]; exact e2, by rw [upd_ne (nine i hi)]; exact e3⟩
  · intro i hi
    rw [a26, b9, b11]
    by_cases hic : i = c
    · rw [hic, upd_eq, upd_eq]
      intro _ q' hq' e
      have := (nI_eq (by omega) (by omega)).mp e
      subst this
      rw [upd_eq]
    · rw [upd_ne hic, upd_ne hic]
      intro h q' hq' e
      have e2 := g.on2 i (lt i hi hic) h q' hq' e
      have hqq : q' ≠ q := by
        rintro rfl
        rw [e26q] at e2
        exact nM_nI (by omega) e2
      rw [upd_ne hqq]; exact e2
  · intro s hs
    rw [b7, b11]
    obtain ⟨o1, o2⟩ := occ2_iff h1 h2 hc hs (nf s hs)
    by_cases h : s1 = nI s ∨ s2 = nI s
    · exact Or.inr (Or.inr ⟨c, by omega, o1.mpr h, by rw [upd_eq]; rfl⟩)
    · rw [o2 h]
      rcases g.tr1 s hs with e | e | ⟨i, hi, e1, e2⟩
      · exact Or.inl e
      · exact Or.inr (Or.inl e)
      · exact Or.inr (Or.inr ⟨i, by omega, e1, by rw [upd_ne (nine i hi)]; exact e2⟩)
  · intro i hi
    rw [a24, a25, b7, b11]
    by_cases hic : i = c
    · rw [hic, upd_eq, upd_eq, upd_eq]
      intro _
      refine ⟨?_, ?_, h12, fun s hs => (occ2_iff h1 h2 hc hs (nf s hs)).1⟩
      · rcases h1 with h1 | ⟨s, hs, e, -⟩
        · exact Or.inl h1
        · exact Or.inr ⟨s, hs, e⟩
      · rcases h2 with h2 | ⟨s, hs, e, -⟩
        · exact Or.inl h2
        · exact Or.inr ⟨s, hs, e⟩
    · rw [upd_ne hic, upd_ne hic, upd_ne hic]
      intro h
      obtain ⟨q1, q2, q3, q4⟩ := g.tr2 i (lt i hi hic) h
      refine ⟨q1, q2, q3, fun s hs => ?_⟩
      obtain ⟨o1, o2⟩ := occ2_iff h1 h2 hc hs (nf s hs)
      rw [← q4 s hs]
      by_cases hh : s1 = nI s ∨ s2 = nI s
      · rw [o1.mpr hh]
        have hM : μ.1 7 s = nM := by
          rcases hh with hh | hh
          · rcases h1 with h1 | ⟨s', hs', e, e2⟩
            · rw [h1] at hh; exact absurd hh (nM_nI (by omega))
            · rw [e] at hh
              have := (nI_eq (by omega) (by omega)).mp hh
              rw [← this]; exact e2
          · rcases h2 with h2 | ⟨s', hs', e, e2⟩
            · rw [h2] at hh; exact absurd hh (nM_nI (by omega))
            · rw [e] at hh
              have := (nI_eq (by omega) (by omega)).mp hh
              rw [← this]; exact e2
        rw [hM]
        exact ⟨fun e => absurd ((nI_eq (by omega) (by omega)).mp e).symm hic, fun e => absurd e (nM_nI (by omega))⟩
      · rw [o2 hh]

/-! a free trunk between two exchanges -/
def fb (f : Nat → Int32) (a b : Nat) : Int32 := if f (2 * (a + b - 1)) = nM then nI (2 * (a + b - 1)) else if f (2 * (a + b - 1) + 1) = nM then nI (2 * (a + b - 1) + 1) else nM
theorem fb_Fre {f : Nat → Int32} {a b : Nat} (ha : a < 3) (hb : b < 3) (hab : a ≠ b) : Fre f (fb f a b) := by
  unfold fb
  by_cases h1 : f (2 * (a + b - 1)) = nM
  · rw [if_pos h1]; exact Or.inr ⟨_, by omega, rfl, h1⟩
  · rw [if_neg h1]
    by_cases h2 : f (2 * (a + b - 1) + 1) = nM
    · rw [if_pos h2]; exact Or.inr ⟨_, by omega, rfl, h2⟩
    · rw [if_neg h2]; exact Or.inl rfl
theorem fb_dist {f : Nat → Int32} {a b d e : Nat} (ha : a < 3) (hb : b < 3) (hd : d < 3) (he : e < 3) (h : a + b ≠ d + e) (h1 : 1 ≤ a + b) (h2 : 1 ≤ d + e) : fb f a b = nM ∨ fb f a b ≠ fb f d e := by
  have rng : ∀ a b, a < 3 → b < 3 → 1 ≤ a + b → fb f a b = nM ∨ ∃ s, s / 2 = a + b - 1 ∧ s < 2 ^ 31 ∧ fb f a b = nI s := by
    intro a b ha hb h1
    unfold fb
    by_cases h1 : f (2 * (a + b - 1)) = nM
    · rw [if_pos h1]; exact Or.inr ⟨_, by omega, by omega, rfl⟩
    · rw [if_neg h1]
      by_cases h2 : f (2 * (a + b - 1) + 1) = nM
      · rw [if_pos h2]; exact Or.inr ⟨_, by omega, by omega, rfl⟩
      · rw [if_neg h2]; exact Or.inl rfl
  rcases rng a b ha hb h1 with e1 | ⟨s, hs, hs2, e1⟩
  · exact Or.inl e1
  · refine Or.inr (fun e3 => ?_)
    rw [e1] at e3
    rcases rng d e hd he h2 with e2 | ⟨t, ht, ht2, e2⟩
    · rw [e2] at e3; exact nI_nM hs2 e3
    · rw [e2] at e3
      have := (nI_eq hs2 ht2).mp e3
      omega
theorem freeTrunk_v {σ : tyS} {a b : Nat} (ha : a < 3) (hb : b < 3) (hab : a ≠ b) : tyf_B_freeTrunk σ (nI a) (nI b) = some (fb (σ.1 27) a b) := by
  have hs : 2 * (a + b - 1) + 1 < 6 := by omega
  unfold tyf_B_freeTrunk fb
  show tyb_B_freeTrunk_2 _ _ _ _ _ _ = _
  unfold tyb_B_freeTrunk_2
  rw [if_neg (by decide), il0, slotOf_v ha hb hab, bR_s, Nat.add_zero, chk_in (by omega) (by decide), nI_clamp (by omega)]
  by_cases h1 : σ.1 27 (2 * (a + b - 1)) = nM
  · rw [if_pos (by exact h1), if_pos h1]
  · rw [if_neg (by exact h1), if_neg h1]
    show tyb_B_freeTrunk_2 _ _ _ _ _ _ = _
    unfold tyb_B_freeTrunk_2
    rw [il1, nI_add, if_neg (by decide), slotOf_v ha hb hab, bR_s, chk_in hs (by decide), nI_clamp (by omega)]
    by_cases h2 : σ.1 27 (2 * (a + b - 1) + 1) = nM
    · rw [if_pos (by exact h2), if_pos h2]
    · rw [if_neg (by exact h2), if_neg h2]
      show tyb_B_freeTrunk_2 _ _ _ _ _ _ = _
      unfold tyb_B_freeTrunk_2
      rw [if_pos (by decide)]
      rfl
theorem freeBetween_v {μ : tyS} {a b : Nat} (ha : a < 3) (hb : b < 3) (hab : a ≠ b) : tyf_M_freeBetween μ (nI a) (nI b) = some (fb (μ.1 7) a b) := by
  unfold tyf_M_freeBetween fb
  rw [between_v ha hb hab, bR_s, chk_in (by omega) (by decide), il1, nI_add, chk_in (by omega) (by decide), nI_clamp (by omega), nI_clamp (by omega)]
  by_cases h1 : μ.1 7 (2 * (a + b - 1)) = nM
  · rw [if_pos (by exact h1), if_pos h1]
  · rw [if_neg (by exact h1), if_neg h1]
    by_cases h2 : μ.1 7 (2 * (a + b - 1) + 1) = nM
    · rw [if_pos (by exact h2), if_pos h2]
    · rw [if_neg (by exact h2), if_neg h2]
      rfl
theorem home_num : ∀ q, q < 6 → (nI q - nI q / 3 * 3) = nI (q % 3) := by decide
theorem via_num {a b : Nat} (ha : a < 3) (hb : b < 3) : (3 - nI a) - nI b = nI (3 - a - b) ∨ 3 < a + b := by
  by_cases h : a + b ≤ 3
  · left; rw [il3, nI_sub (by omega), nI_sub (by omega)]
  · right; omega
/-- what the way of a call is: none to be had, or with two trunks to take -/
def wayOf (f : Nat → Int32) (a b : Nat) : Option (Int32 × Int32) :=
  if a = b then some (nM, nM) else if fb f a b = nM then (if fb f a (3 - a - b) = nM then none else if fb f (3 - a - b) b = nM then none else some (fb f a (3 - a - b), fb f (3 - a - b) b)) else some (fb f a b, nM)
theorem wayOf_ok {f : Nat → Int32} {a b : Nat} {s1 s2 : Int32} (ha : a < 3) (hb : b < 3) (h : wayOf f a b = some (s1, s2)) : Fre f s1 ∧ Fre f s2 ∧ (s1 = nM ∨ s1 ≠ s2) := by
  unfold wayOf at h
  by_cases hab : a = b
  · rw [if_pos hab] at h; cases h; exact ⟨Or.inl rfl, Or.inl rfl, Or.inl rfl⟩
  rw [if_neg hab] at h
  by_cases h1 : fb f a b = nM
  · rw [if_pos h1] at h
    by_cases h2 : fb f a (3 - a - b) = nM
    · rw [if_pos h2] at h; cases h
    rw [if_neg h2] at h
    by_cases h3 : fb f (3 - a - b) b = nM
    · rw [if_pos h3] at h; cases h
    rw [if_neg h3] at h
    cases h
    exact ⟨fb_Fre ha (by omega) (by omega), fb_Fre (by omega) hb (by omega), fb_dist ha (by omega) (by omega) hb (by omega) (by omega) (by omega)⟩
  · rw [if_neg h1] at h
    cases h
    exact ⟨fb_Fre ha hb hab, Or.inl rfl, Or.inr h1⟩
theorem takesWay_v {μ : tyS} {a b c : Nat} (ha : a < 3) (hb : b < 3) (mc : μ.2 3 = nI c) : (wayOf (μ.1 7) a b = none ∧ tyf_M_takesWay μ (nI a) (nI b) = some (0, μ)) ∨ ∃ s1 s2 υ, wayOf (μ.1 7) a b = some (s1, s2) ∧ tyf_M_takesWay μ (nI a) (nI b) = some (1, υ) ∧ Fr [7] [] μ υ ∧ υ.1 7 = occ (occ (μ.1 7) s1 (nI c)) s2 (nI c) := by
  unfold tyf_M_takesWay wayOf
  by_cases hab : a = b
  · rw [if_pos (show nI a = nI b by rw [hab]), if_pos hab]
    exact Or.inr ⟨nM, nM, μ, rfl, rfl, Fr.rf, by rw [occ_M, occ_M]⟩
  have hab2 : ¬ nI a = nI b := fun e => hab ((nI_eq (by omega) (by omega)).mp e)
  have e3 : (3 - nI a) - nI b = nI (3 - a - b) := by rw [il3, nI_sub (by omega), nI_sub (by omega)]
  rw [if_neg hab2, if_neg hab, freeBetween_v ha hb hab, bR_s, e3, freeBetween_v ha (by omega) (by omega), bR_s, freeBetween_v (by omega) hb (by omega), bR_s]
  by_cases h1 : fb (μ.1 7) a b = nM
  · rw [if_pos (by exact h1), if_pos h1]
    by_cases h2 : fb (μ.1 7) a (3 - a - b) = nM
    · rw [if_pos (by exact h2), if_pos h2]
      exact Or.inl ⟨rfl, rfl⟩
    · rw [if_neg (by exact h2), if_neg h2]
      by_cases h3 : fb (μ.1 7) (3 - a - b) b = nM
      · rw [if_pos (by exact h3), if_pos h3]
        exact Or.inl ⟨rfl, rfl⟩
      · rw [if_neg (by exact h3), if_neg h3]
        refine Or.inr ⟨_, _, sW (sW μ 7 (fb (μ.1 7) a (3 - a - b)) (nI c)) 7 (fb (μ.1 7) (3 - a - b) b) (nI c), rfl, ?_, (Fr.sW.tr Fr.sW).mono (by decide) (by decide), ?_⟩
        · rcases fb_Fre (f := μ.1 7) (a := a) (b := 3 - a - b) ha (by omega) (by omega) with e | ⟨s, hs, e, -⟩
          · exact absurd e h2
          · rcases fb_Fre (f := μ.1 7) (a := 3 - a - b) (b := b) (by omega) hb (by omega) with e' | ⟨t, ht, e', -⟩
            · exact absurd e' h3
            · rw [e, e', mc, chk_in hs (by decide), stp_e, chk_in ht (by decide), stp_e, sW_v, mc]
        · rcases fb_Fre (f := μ.1 7) (a := a) (b := 3 - a - b) ha (by omega) (by omega) with e | ⟨s, hs, e, -⟩
          · exact absurd e h2
          · rcases fb_Fre (f := μ.1 7) (a := 3 - a - b) (b := b) (by omega) hb (by omega) with e' | ⟨t, ht, e', -⟩
            · exact absurd e' h3
            · rw [e, e', sW_eq (by omega), sW_eq (by omega), occ_n (by omega), occ_n (by omega)]
  · rw [if_neg (by exact h1), if_neg h1]
    rcases fb_Fre (f := μ.1 7) (a := a) (b := b) ha hb hab with e | ⟨s, hs, e, -⟩
    · exact absurd e h1
    · refine Or.inr ⟨_, _, sW μ 7 (nI s) (nI c), rfl, ?_, Fr.sW, ?_⟩
      · rw [e, mc, chk_in hs (by decide), stp_e]
      · rw [e, sW_eq (by omega), occ_M, occ_n (by omega)]
theorem begin_v {σ μ : tyS} {m c q y : Nat} (g : Gk σ μ m c) (hq : q < 6) (hy : y < 3) (hc : c < 60) : ∃ v, v ≤ 6 ∧ tyf_M_callsTo μ (nI y) = some (nI v) ∧ ((¬ nI v < μ.1 8 y ∧ tyf_B_begin σ (nI q) (nI y) = some (-1, σ)) ∨ (nI v < μ.1 8 y ∧ wayOf (μ.1 7) (q % 3) y = none ∧ tyf_B_begin σ (nI q) (nI y) = some (-1, σ)) ∨ (nI v < μ.1 8 y ∧ ∃ s1 s2, wayOf (μ.1 7) (q % 3) y = some (s1, s2) ∧ tyf_B_begin σ (nI q) (nI y) = bN (tyf_B_connect σ (nI q) (nI y) s1 s2) (fun r16 σ15 => some (r16, σ15)))) := by
  obtain ⟨v, hv, v1, v2⟩ := callsTo_v g (nI y)
  refine ⟨v, hv, v2, ?_⟩
  have ha : q % 3 < 3 := Nat.mod_lt _ (by decide)
  unfold tyf_B_begin wayOf
  rw [v1, bR_s, chk_in hy (by decide), nI_clamp (by omega), g.e28, home_num q hq]
  by_cases hl : nI v < μ.1 8 y
  rotate_left
  · rw [if_neg hl]; exact Or.inl ⟨hl, rfl⟩
  rw [if_pos hl]
  refine Or.inr ?_
  by_cases hab : q % 3 = y
  · rw [if_pos (show nI (q % 3) = nI y by rw [hab]), if_pos hab]
    exact Or.inr ⟨hl, _, _, rfl, rfl⟩
  have hab2 : ¬ nI (q % 3) = nI y := fun e => hab ((nI_eq (by omega) (by omega)).mp e)
  have e3 : (3 - nI (q % 3)) - nI y = nI (3 - q % 3 - y) := by rw [il3, nI_sub (by omega), nI_sub (by omega)]
  rw [if_neg hab2, if_neg hab, freeTrunk_v ha hy hab, bR_s, e3, freeTrunk_v ha (by omega) (by omega), bR_s, freeTrunk_v (by omega) hy (by omega), bR_s, g.e27]
  by_cases h1 : fb (μ.1 7) (q % 3) y = nM
  · rw [if_pos (by exact h1), if_pos h1]
    by_cases h2 : fb (μ.1 7) (q % 3) (3 - q % 3 - y) = nM
    · rw [if_pos (by exact h2), if_pos h2]
      exact Or.inl ⟨hl, rfl, rfl⟩
    · rw [if_neg (by exact h2), if_neg h2]
      by_cases h3 : fb (μ.1 7) (3 - q % 3 - y) y = nM
      · rw [if_pos (by exact h3), if_pos h3]
        exact Or.inl ⟨hl, rfl, rfl⟩
      · rw [if_neg (by exact h3), if_neg h3]
        exact Or.inr ⟨hl, _, _, rfl, rfl⟩
  · rw [if_neg (by exact h1), if_neg h1]
    exact Or.inr ⟨hl, _, _, rfl, rfl⟩
theorem op_call {k : Nat} {σ μ : tyS} (h : Inv k σ μ) (hk : k < 512) (p1 p2 : Int32) : ∃ res v μ', tyf_T_call σ p1 p2 = some res ∧ tyf_M_call μ p1 p2 = some (v, μ') ∧ Ag [1, 2] res v μ' ∧ Inv (k + 1) res.2.2 μ' := by
  obtain ⟨L, B, n, T, hh, m, c, i⟩ := h
  have c60 := i.gk.c60
  have m40 := i.gb.m40
  unfold tyf_T_call tyf_M_call tyf_B_ongoing tyf_B_isFull
  rw [show (5 : Int32) = nI 6 - 1 from by decide]
  by_cases hx : isIx 6 p1
  rotate_left
  · rw [T_requireCustomer_f hx, bX_1, M_in_f (by decide) hx, bR_s, if_pos rfl, stp_e]
    exact i.bad (kk := 1) rfl rfl sV_eq Fr.sV Fr.rf
  obtain ⟨q, hq, rfl⟩ := hx
  rw [T_requireCustomer_t hq, bX_r, M_in_t (by decide) hq, bR_s, if_neg (show ¬ (1 : Int32) = 0 by decide)]
  by_cases hp : isIx 3 p2
  rotate_left
  · rw [T_requireYard_f hp, bX_1, M_isYard_f hp, bR_s, if_pos rfl, stp_e]
    exact i.bad (kk := 1) rfl rfl sV_eq Fr.sV Fr.rf
  obtain ⟨y, hy, rfl⟩ := hp
  rw [T_requireYard_t hy, bX_r, chk_in hq (by decide), bR_s, nI_clamp (by omega), M_isYard_t hy, bR_s, if_neg (show ¬ (1 : Int32) = 0 by decide), callNow_v i.gk hq, bR_s]
  by_cases ho : σ.1 26 q = -1
  rotate_left
  · rw [if_neg ho, if_neg ho, stp_e]
    exact i.bad (kk := 2) rfl rfl sV_eq Fr.sV Fr.rf
  rw [if_pos ho, if_pos ho, i.gk.sc, i.gk.mc, il60]
  by_cases hc : c < 60
  rotate_left
  · have : c = 60 := by omega
    subst this
    rw [if_neg (nI_nlt (by omega) (by omega)), bR_s, if_neg (show ¬ (1 : Int32) = 0 by decide), if_pos rfl, stp_e]
    exact i.bad (kk := 2) rfl rfl sV_eq Fr.sV Fr.rf
  have hc60 : ¬ nI c = nI 60 := fun e => by
    have := (nI_eq (by omega) (by omega)).mp e
    omega
  have f0 : Fr [] [0] μ (sV μ 0 0) := Fr.sV
  have g0 : Gk σ (sV μ 0 0) m c := i.gk.fr (Fr.rf (as := []) (vs := [])) f0
  rw [if_pos (nI_lt hc (by omega)), bR_s, if_pos rfl, if_neg hc60, stp_e]
  obtain ⟨v, hv, v1, v2⟩ := begin_v g0 hq hy hc
  have busyEnd : ∀ μ1 : tyS, μ1 = sV μ 0 0 → Inv (k + 1) (sV σ 2 (σ.2 2 + 1)) (sV μ1 4 (μ1.2 4 + 1)) := by
    rintro μ1 rfl
    have f : Fr [] [2] σ (sV σ 2 (σ.2 2 + 1)) := Fr.sV
    have f2 : Fr [] [0, 4] μ (sV (sV μ 0 0) 4 ((sV μ 0 0).2 4 + 1)) := (f0.tr Fr.sV).mono (by decide) (by decide)
    refine ⟨L, B, n, T, hh, m, c, by have := i.hk; omega, i.gy.fr f f2, i.gc.fr f f2, i.gb.fr f f2, i.gk.fr f f2, i.gt.fr f2, ?_⟩
    constructor
    · rw [sV_eq, sV_eq, sV_ne (by decide), i.gs.busy]
    · rw [f.v 3, f2.v 1]; exact i.gs.now
  rw [v1, bR_s, chk_in hy (by decide), nI_clamp (by omega), home_num q hq]
  rcases v2 with ⟨hl, hb⟩ | ⟨hl, hw, hb⟩ | ⟨hl, s1, s2, hw, hb⟩
  · rw [hb, bN_s, if_pos rfl, stp_e, if_pos (Int32.not_lt.mp hl), stp_e]
    exact ⟨_, _, _, rfl, rfl, ⟨0, rfl, by rw [sV_ne (by decide), sV_eq]; rfl, fun _ => rfl⟩, busyEnd _ rfl⟩
  · rcases takesWay_v (μ := sV μ 0 0) (a := q % 3) (b := y) (Nat.mod_lt _ (by decide)) hy g0.mc with ⟨-, w⟩ | ⟨s1, s2, υ, w0, w⟩
    · rw [hb, bN_s, if_pos rfl, stp_e, if_neg (Int32.not_le.mpr hl), w, bN_s, if_pos rfl, stp_e]
      exact ⟨_, _, _, rfl, rfl, ⟨0, rfl, by rw [sV_ne (by decide), sV_eq]; rfl, fun _ => rfl⟩, busyEnd _ rfl⟩
    · rw [hw] at w0; cases w0
  · obtain ⟨o1, o2, o3⟩ := wayOf_ok (Nat.mod_lt _ (by decide)) hy hw
    obtain ⟨τ, t1, t2, t3, t4, t5, t6, t7, t8, t9, t10⟩ := connect_v (y := y) i.gk.sc hc hq o1 o2
    rcases takesWay_v (μ := sV μ 0 0) (a := q % 3) (b := y) (Nat.mod_lt _ (by decide)) hy g0.mc with ⟨w0, w⟩ | ⟨r1, r2, υ, w0, w, w2, w3⟩
    · rw [hw] at w0; cases w0
    rw [hw] at w0
    cases w0
    have eυ : υ.2 3 = nI c := by rw [w2.v 3]; exact g0.mc
    rw [hb, t1, bN_s, bN_s, if_neg (show ¬ nI c = -1 from nI_nM (by omega)), if_neg (Int32.not_le.mpr hl), w, bN_s, if_neg (show ¬ (1 : Int32) = 0 by decide), eυ, chk_in hc (by decide), stp_e, sW_v, eυ, chk_in hc (by decide), stp_e, sW_v, sW_v, eυ, chk_in hc (by decide), stp_e, sW_v, sW_v, sW_v, eυ, chk_in hc (by decide), stp_e, sW_v, sW_v, sW_v, sW_v, eυ, stp_e, sV_eq, il1, nI_add, nI_sub (by omega), Nat.add_sub_cancel]
    have fw : Fr [9, 10, 11, 12] [3] υ (sV (sW (sW (sW (sW υ 9 (nI c) (nI q)) 10 (nI c) (nI y)) 11 (nI c) (nI 1)) 12 (nI c) (-nI 1)) 3 (nI (c + 1))) := ((((Fr.sW.tr Fr.sW).tr Fr.sW).tr Fr.sW).tr Fr.sV).mono (by decide) (by decide)
    have f2 : Fr [7, 9, 10, 11, 12] [0, 3] μ (sV (sW (sW (sW (sW υ 9 (nI c) (nI q)) 10 (nI c) (nI y)) 11 (nI c) (nI 1)) 12 (nI c) (-nI 1)) 3 (nI (c + 1))) := ((f0.tr w2).tr fw).mono (by decide) (by decide)
    have fu : ∀ a, a ≠ 7 → υ.1 a = μ.1 a := fun a ha => by rw [w2.1 a (by simp [ha])]; rfl
    refine ⟨_, _, _, rfl, rfl, ⟨0, rfl, by rw [sV_ne (by decide), sW_v, sW_v, sW_v, sW_v, w2.v 0, sV_eq]; rfl, fun _ => rfl⟩, L, B, n, T, hh, m, c + 1, by have := i.hk; omega, i.gy.fr t2 f2, i.gc.fr t2 f2, i.gb.fr t2 f2, ?_, i.gt.fr f2, i.gs.fr t2 f2⟩
    refine i.gk.begin m40 hc hq hy ho o1 o2 o3 t2 f2 t3 sV_eq t4 t5 t6 t7 t8 t9 t10 ?_ ?_ ?_ ?_ ?_
    · rw [fw.a 7, w3, sV_a]
    · rw [sV_a, sW_ne (by decide), sW_ne (by decide), sW_ne (by decide), sW_eq (by omega), fu 9 (by decide)]
    · rw [sV_a, sW_ne (by decide), sW_ne (by decide), sW_eq (by omega), sW_ne (by decide), fu 10 (by decide)]
    · rw [sV_a, sW_ne (by decide), sW_eq (by omega), sW_ne (by decide), sW_ne (by decide), fu 11 (by decide)]; rfl
    · rw [sV_a, sW_eq (by omega), sW_ne (by decide), sW_ne (by decide), sW_ne (by decide), fu 12 (by decide)]; rfl
