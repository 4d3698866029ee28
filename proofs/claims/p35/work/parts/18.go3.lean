/-! ===== the run, with exceptions and monitors ===== -/
noncomputable def pz_ek (e : Env) (vm : Vm) (b : ByteArray) (cur d pc : Nat) : Option pz_K := match pz_dec b pc with
  | some (i, _) => pz_kop e vm cur d i
  | none => none
noncomputable def pz_far3 (e : Env) (vm : Vm) (cur : Nat) (b : ByteArray) (hp : List Cell) (su : Nat) (f : JFrame) (r : List Frame) : Option (List Cell × Nat × List Frame) := match pz_far2 e vm b hp su f r with
  | some q => some q
  | none => match pz_n cur fun cur => pz_q2 f.method.cls f.pc fun d pc => pz_ek e vm b cur d pc with
    | some g => match g hp f r with
      | some (hp', fs) => some (hp', su, fs)
      | none => none
    | none => none
noncomputable def pz_one3 (e : Env) (vm : Vm) (cur : Nat) (hp : List Cell) (su : Nat) (fs : List Frame) : pz_A := match fs with
  | .java f :: b :: r => match pz_q2 f.method.cls f.method.idx fun i j => pz_code vm ⟨i, j⟩ with
    | some bs => pz_fr (pz_fast2 bs 400 f) fun f0 => match pz_far3 e vm cur bs hp su f0 (b :: r) with
      | some (hp', su', fs') => (true, hp', su', fs')
      | none => (false, hp, su, .java f0 :: b :: r)
    | none => (false, hp, su, fs)
  | .throwing a :: r => match pz_thrw vm hp (.throwing a :: r) with
    | some fs' => (true, hp, su, fs')
    | none => (false, hp, su, fs)
  | _ => (false, hp, su, fs)
noncomputable def pz_go3 (tb : Tables) (e : Env) (hs : Nat) : Nat → State → Vm → List Cell → Nat → List Frame → Bool
  | 0, _, _, _, _, _ => false
  | n + 1, S, vv, hp, su, fs => match pz_enough hs hp fs with
    | true => true
    | false => match pz_one3 e vv S.cur hp su fs with
      | (true, hp', su', fs') => pz_go3 tb e hs n S vv hp' su' fs'
      | (false, hp', su', fs') => match pz_chk (pz_C S hp' su' fs') with
        | false => false
        | true => pz_ss (stepThread tb e (pz_C S hp' su' fs')).1 fun S' => match pz_thr S', pz_live S', S'.heap with
          | true, true, ⟨l⟩ => pz_lq l fun l => pz_n S'.slotsUsed fun u => pz_vm S'.vm fun vm' => pz_go3 tb e hs n S' vm' l u S'.frames
          | _, _, _ => false
section PZD
variable {p : Program} {e : Env} {S : State}
theorem pz_far3_ok (hx : p.tables.exec = Jvm.exec) (hT : pz_thr S = true) {c : Code} {hp hp' : List Cell} {su su' : Nat} {f : JFrame} {r fs : List Frame} (X : At (pz_C S hp su (.java f :: r)) f.method c r)
    (h : pz_far3 e S.vm S.cur c.code hp su f r = some (hp', su', fs)) : Steps p.tables e r (pz_C S hp su (.java f :: r)) (pz_C S hp' su' fs) := by
  unfold pz_far3 at h
  split at h
  · rename_i q hq
    cases h
    exact pz_far2_ok hx hT X hq
  · rw [pz_n_eq, pz_q2_eq] at h
    split at h
    · rename_i g hg
      split at h
      · rename_i hp1 fs1 h1
        cases h
        unfold pz_ek at hg
        split at hg
        · rename_i i len hd0
          exact pz_kop_ok hx hT (pz_dec_ok hd0) X hg h1
        · cases hg
      · cases h
    · cases h
theorem pz_one3_ok (hx : p.tables.exec = Jvm.exec) (hT : pz_thr S = true) (hL : pz_live S = true) {hp hp' : List Cell} {su su' : Nat} {fs fs' : List Frame} {q : Bool} (h : pz_one3 e S.vm S.cur hp su fs = (q, hp', su', fs')) :
    pz_Go p.tables e (pz_C S hp su fs) (pz_C S hp' su' fs') := by
  have hcur := pz_thr_cur hT
  unfold pz_one3 at h
  split at h
  · rename_i f b r
    split at h
    · rename_i bs hb
      rw [pz_q2_eq] at hb
      have hb1 : pz_code S.vm f.method = some bs := hb
      obtain ⟨c, rfl, X⟩ := pz_mkAt (hp := hp) (su := su) (f := f) (r := b :: r) hT hL hb1
      have hself : (pz_C S hp su (.java f :: b :: r)).setTop f = pz_C S hp su (.java f :: b :: r) := pz_C_top hcur
      have hne : (b :: r) ≠ [] := by simp
      obtain ⟨hm, hfa⟩ := pz_fast2_ok (p := p) (e := e) (tg := (pz_C S hp su (.java f :: b :: r)).setTop (pz_fast2 c.code 400 f)) hx 400 f X
      have h0 : Steps p.tables e (b :: r) (pz_C S hp su (.java f :: b :: r)) (pz_C S hp su (.java (pz_fast2 c.code 400 f) :: b :: r)) := by
        have := hfa (Steps.refl _)
        rw [hself, pz_C_top hcur] at this
        exact this
      have X0 : At (pz_C S hp su (.java (pz_fast2 c.code 400 f) :: b :: r)) (pz_fast2 c.code 400 f).method c (b :: r) := by rw [hm]; exact pz_At hcur X
      rw [pz_fr_eq] at h
      split at h
      · rename_i hp1 su1 fs1 hfar
        cases h
        exact (pz_Go.of hne h0).trans (pz_Go.of hne (pz_far3_ok hx hT X0 hfar))
      · cases h
        exact pz_Go.of hne h0
    · cases h
      exact pz_Go.refl _
  · split at h
    · rename_i fs1 h1
      cases h
      exact pz_thrw_ok hT hL h1
    · cases h
      exact pz_Go.refl _
  · cases h
    exact pz_Go.refl _
theorem pz_go3_ok (hx : p.tables.exec = Jvm.exec) (hs : Nat) : ∀ (n : Nat) (S : State) (hp : List Cell) (su : Nat) (fs : List Frame), pz_thr S = true → pz_live S = true → pz_go3 p.tables e hs n S S.vm hp su fs = true →
    ∃ t, pz_Go p.tables e (pz_C S hp su fs) t ∧ hs < t.heap.size := by
  intro n
  induction n with
  | zero => intro S hp su fs _ _ h; cases h
  | succ n ih =>
    intro S hp su fs hT hL h
    unfold pz_go3 at h
    split at h
    · rename_i h2
      refine ⟨_, pz_Go.refl _, ?_⟩
      unfold pz_enough at h2
      split at h2
      · exact Nat.le_of_ble_eq_true h2
      · cases h2
    · split at h
      · rename_i hp' su' fs' h1
        obtain ⟨t, gt, ht⟩ := ih _ _ _ _ hT hL h
        exact ⟨t, (pz_one3_ok hx hT hL h1).trans gt, ht⟩
      · rename_i hp' su' fs' h1
        have g1 := pz_one3_ok (p := p) hx hT hL h1
        split at h
        · cases h
        · rename_i h3
          rw [pz_ss_eq] at h
          split at h
          · rename_i l h4 h5 h6
            rw [pz_lq_eq, pz_n_eq, pz_vm_eq] at h
            obtain ⟨t, gt, ht⟩ := ih _ _ _ _ h4 h5 h
            have h7 := pz_C_self h4
            rw [h6] at h7
            rw [h7] at gt
            exact ⟨t, (g1.trans (pz_Go.step h3)).trans gt, ht⟩
          · cases h
end PZD
/-! ===== END ===== -/
