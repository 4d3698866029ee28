/-! ===== the run, by values ===== -/
noncomputable def pz_vm {β : Type} (vm : Vm) (k : Vm → β) : β := match vm with
  | ⟨a1, a2, a3, a4, a5, a6, a7, a8, a9, a10, a11, a12, a13, a14, a15, a16, a17, a18, a19⟩ => k ⟨a1, a2, a3, a4, a5, a6, a7, a8, a9, a10, a11, a12, a13, a14, a15, a16, a17, a18, a19⟩
theorem pz_vm_eq {β : Type} (vm : Vm) (k : Vm → β) : pz_vm vm k = k vm := by cases vm; rfl
abbrev pz_J : Type := List Cell → JFrame → List Frame → Option (List Frame)
noncomputable def pz_jop (e : Env) (vm : Vm) (d : Nat) (i : Instr) : Option pz_J := match i with
  | .invokestatic idx => match pz_st e vm d idx with
    | some (m, n, L) => some fun _ f r => match pz_args n f.stack with
      | some (args, st) => pz_enter2 e.platform f r m L args st
      | none => none
    | none => none
  | .invokevirtual idx => match pz_vt vm d idx with
    | some (r0, n) => some fun hp f r => match pz_args n f.stack with
      | some (args, .ref a :: st) => match pz_at hp a with
        | some cl0 => match cl0.vm with
          | .none => match pz_n cl0.cls fun cc => pz_sel e.platform vm cc r0 with
            | some (m, L) => pz_enter2 e.platform f r m L (.ref a :: args) st
            | none => none
          | _ => none
        | none => none
      | _ => none
    | none => none
  | .invokespecial idx => match pz_sp vm d idx with
    | some (m, n, L) => some fun hp f r => match pz_args n f.stack with
      | some (args, .ref a :: st) => match pz_at hp a with
        | some cl0 => match cl0.vm with
          | .none => match vm.classes[cl0.cls]? with
            | some _ => pz_enter2 e.platform f r m L (.ref a :: args) st
            | none => none
          | _ => none
        | none => none
      | _ => none
    | none => none
  | .return_ => some fun _ f r => pz_ret vm .return_ f r
  | .ireturn => some fun _ f r => pz_ret vm .ireturn f r
  | _ => none
abbrev pz_E : Type := Sum (List Cell → Nat → JFrame → Option pz_R) pz_J
noncomputable def pz_ent (e : Env) (vm : Vm) (b : ByteArray) (d pc : Nat) : Option pz_E := match pz_dec b pc with
  | some (i, len) => match pz_hop vm e.platform d i len with
    | some g => some (.inl g)
    | none => match pz_jop e vm d i with
      | some g => some (.inr g)
      | none => none
  | none => none
noncomputable def pz_far2 (e : Env) (vm : Vm) (b : ByteArray) (hp : List Cell) (su : Nat) (f : JFrame) (r : List Frame) : Option (List Cell × Nat × List Frame) := match pz_q2 f.method.cls f.pc fun d pc => pz_ent e vm b d pc with
  | some (.inl g) => match g hp su f with
    | some (hp', su', f') => some (hp', su', .java f' :: r)
    | none => none
  | some (.inr g) => match g hp f r with
    | some fs => some (hp, su, fs)
    | none => none
  | none => none
noncomputable def pz_one2 (e : Env) (vm : Vm) (hp : List Cell) (su : Nat) (fs : List Frame) : pz_A := match fs with
  | .java f :: b :: r => match pz_q2 f.method.cls f.method.idx fun i j => pz_code vm ⟨i, j⟩ with
    | some bs => pz_fr (pz_fast2 bs 400 f) fun f0 => match pz_far2 e vm bs hp su f0 (b :: r) with
      | some (hp', su', fs') => (true, hp', su', fs')
      | none => (false, hp, su, .java f0 :: b :: r)
    | none => (false, hp, su, fs)
  | _ => (false, hp, su, fs)
noncomputable def pz_go2 (tb : Tables) (e : Env) (hs : Nat) : Nat → State → Vm → List Cell → Nat → List Frame → Bool
  | 0, _, _, _, _, _ => false
  | n + 1, S, vv, hp, su, fs => match pz_one2 e vv hp su fs with
    | (true, hp', su', fs') => pz_go2 tb e hs n S vv hp' su' fs'
    | (false, hp', su', fs') => match pz_enough hs hp' fs' with
      | true => true
      | false => match pz_chk (pz_C S hp' su' fs') with
        | false => false
        | true => pz_ss (stepThread tb e (pz_C S hp' su' fs')).1 fun S' => match pz_thr S', pz_live S', S'.heap with
          | true, true, ⟨l⟩ => pz_lq l fun l => pz_n S'.slotsUsed fun u => pz_vm S'.vm fun vm' => pz_go2 tb e hs n S' vm' l u S'.frames
          | _, _, _ => false
section PZA
variable {p : Program} {e : Env} {S : State}
theorem pz_jop_ok (hx : p.tables.exec = Jvm.exec) (hT : pz_thr S = true) {c : Code} {hp : List Cell} {su : Nat} {f : JFrame} {r fs : List Frame} {i : Instr} {len : Nat} {g : pz_J} (hd : decode c.code f.pc = .ok (i, len)) (X : At (pz_C S hp su (.java f :: r)) f.method c r)
    (h0 : pz_jop e S.vm f.method.cls i = some g) (h : g hp f r = some fs) : Steps p.tables e r (pz_C S hp su (.java f :: r)) (pz_C S hp su fs) := by
  unfold pz_jop at h0
  split at h0
  · split at h0
    · rename_i m n L hi
      cases h0
      dsimp only at h
      split at h
      · rename_i args st ha
        exact pz_static_ok hx hT hd X hi ha (pz_enter2_ok h) _ (Steps.refl _)
      · cases h
    · cases h0
  · split at h0
    · rename_i r0 n hi
      cases h0
      dsimp only at h
      split at h
      · rename_i args a st ha
        rw [pz_at_eq] at h
        split at h
        · rename_i cl0 hc
          split at h
          · rename_i hv
            split at h
            · rename_i m L hsel
              rw [pz_n_eq] at hsel
              exact pz_virtual_ok hx hT hd X hi ha hc hv hsel (pz_enter2_ok h) _ (Steps.refl _)
            · cases h
          · cases h
        · cases h
      · cases h
    · cases h0
  · split at h0
    · rename_i m n L hi
      cases h0
      dsimp only at h
      split at h
      · rename_i args a st ha
        rw [pz_at_eq] at h
        split at h
        · rename_i cl0 hc
          split at h
          · rename_i hv
            split at h
            · rename_i kc hkc
              exact pz_special_ok hx hT hd X hi ha hc hv hkc (pz_enter2_ok h) _ (Steps.refl _)
            · cases h
          · cases h
        · cases h
      · cases h
    · cases h0
  · cases h0
    exact pz_ret_ok hx (pz_thr_cur hT) hd X h _ rfl
  · cases h0
    exact pz_ret_ok hx (pz_thr_cur hT) hd X h _ rfl
  · cases h0
theorem pz_far2_ok (hx : p.tables.exec = Jvm.exec) (hT : pz_thr S = true) {c : Code} {hp hp' : List Cell} {su su' : Nat} {f : JFrame} {r fs : List Frame} (X : At (pz_C S hp su (.java f :: r)) f.method c r)
    (h : pz_far2 e S.vm c.code hp su f r = some (hp', su', fs)) : Steps p.tables e r (pz_C S hp su (.java f :: r)) (pz_C S hp' su' fs) := by
  have hcur := pz_thr_cur hT
  unfold pz_far2 at h
  rw [pz_q2_eq] at h
  split at h
  · rename_i g hg
    unfold pz_ent at hg
    split at hg
    · rename_i i len hd0
      have hd := pz_dec_ok hd0
      split at hg
      · rename_i g' h2
        cases hg
        split at h
        · rename_i hp1 su1 f1 h3
          cases h
          exact (pz_hop_ok hx hcur hd X h2 h3).2.2 _ (Steps.refl _)
        · cases h
      · split at hg <;> cases hg
    · cases hg
  · rename_i g hg
    unfold pz_ent at hg
    split at hg
    · rename_i i len hd0
      have hd := pz_dec_ok hd0
      split at hg
      · cases hg
      · split at hg
        · rename_i g' h2
          cases hg
          split at h
          · rename_i fs' h3
            cases h
            exact pz_jop_ok hx hT hd X h2 h3
          · cases h
        · cases hg
    · cases hg
  · cases h
theorem pz_one2_ok (hx : p.tables.exec = Jvm.exec) (hT : pz_thr S = true) (hL : pz_live S = true) {hp hp' : List Cell} {su su' : Nat} {fs fs' : List Frame} {q : Bool} (h : pz_one2 e S.vm hp su fs = (q, hp', su', fs')) :
    pz_Go p.tables e (pz_C S hp su fs) (pz_C S hp' su' fs') := by
  have hcur := pz_thr_cur hT
  unfold pz_one2 at h
  split at h
  · rename_i f b r
    split at h
    · rename_i bs hb
      rw [pz_q2_eq] at hb
      have hb1 : pz_code S.vm f.method = some bs := hb
      obtain ⟨c, rfl, X⟩ := pz_mkAt (hp := hp) (su := su) (f := f) (r := b :: r) hT hL hb1
      have hself : (pz_C S hp su (.java f :: b :: r)).setTop f = pz_C S hp su (.java f :: b :: r) := pz_C_top hcur
      have hne : (b :: r) ≠ [] := by simp
      obtain ⟨hm, hfa⟩ := pz_fast2_ok (p := p) (e := e) (tg := (pz_C S hp su (.java f :: b :: r)).setTop (pz_fast2 c.code 400 f)) hx 400 f X
      have h0 : Steps p.tables e (b :: r) (pz_C S hp su (.java f :: b :: r)) (pz_C S hp su (.java (pz_fast2 c.code 400 f) :: b :: r)) := by
        have := hfa (Steps.refl _)
        rw [hself, pz_C_top hcur] at this
        exact this
      have X0 : At (pz_C S hp su (.java (pz_fast2 c.code 400 f) :: b :: r)) (pz_fast2 c.code 400 f).method c (b :: r) := by rw [hm]; exact pz_At hcur X
      rw [pz_fr_eq] at h
      split at h
      · rename_i hp1 su1 fs1 hfar
        cases h
        exact (pz_Go.of hne h0).trans (pz_Go.of hne (pz_far2_ok hx hT X0 hfar))
      · cases h
        exact pz_Go.of hne h0
    · cases h
      exact pz_Go.refl _
  · cases h
    exact pz_Go.refl _
theorem pz_go2_ok (hx : p.tables.exec = Jvm.exec) (hs : Nat) : ∀ (n : Nat) (S : State) (hp : List Cell) (su : Nat) (fs : List Frame), pz_thr S = true → pz_live S = true → pz_go2 p.tables e hs n S S.vm hp su fs = true →
    ∃ t, pz_Go p.tables e (pz_C S hp su fs) t ∧ hs < t.heap.size := by
  intro n
  induction n with
  | zero => intro S hp su fs _ _ h; cases h
  | succ n ih =>
    intro S hp su fs hT hL h
    unfold pz_go2 at h
    split at h
    · rename_i hp' su' fs' h1
      obtain ⟨t, gt, ht⟩ := ih _ _ _ _ hT hL h
      exact ⟨t, (pz_one2_ok hx hT hL h1).trans gt, ht⟩
    · rename_i hp' su' fs' h1
      have g1 := pz_one2_ok (p := p) hx hT hL h1
      split at h
      · rename_i h2
        refine ⟨_, g1, ?_⟩
        unfold pz_enough at h2
        split at h2
        · exact Nat.le_of_ble_eq_true h2
        · cases h2
      · split at h
        · cases h
        · rename_i h3
          rw [pz_ss_eq] at h
          split at h
          · rename_i l h4 h5 h6
            rw [pz_lq_eq, pz_n_eq, pz_vm_eq] at h
            obtain ⟨t, gt, ht⟩ := ih _ _ _ _ h4 h5 h
            have h7 := pz_C_self h4
            rw [h6] at h7
            rw [h7] at gt
            exact ⟨t, (g1.trans (pz_Go.step h3)).trans gt, ht⟩
          · cases h
end PZA
/-- a run that passes the claim's room while nothing has ended: the claim is false -/
theorem pz_false3 {n : Nat} (h0 : pz_thr start1.about = true) (h1 : pz_live start1.about = true)
    (h : pz_go2 start1.p0.tables start1.e0 (start1.about.heap.size + 180) n start1.about start1.about.vm start1.about.heap.toList start1.about.slotsUsed start1.about.frames = true) : ¬ Claimed_1_1 := by
  intro hA
  obtain ⟨hL, hW, had, -, hcas, hclk, hfr, hfit, hheap, happ, hcalls, hrest, hpre⟩ := start1.atStart
  obtain ⟨q, o, -, -, hend, -, -, -, hsame⟩ := hA launch0 rfl hL hW start1.p0 start1.e0 had hcas hclk start1.about _ start1.args0 Lib.HandBits.below0 hfr hfit hheap happ ⟨hcalls, hrest, hpre⟩
  obtain ⟨t, gt, ht⟩ := pz_go2_ok rfl _ _ _ _ _ _ h0 h1 h
  rw [pz_C_self h0] at gt
  obtain ⟨k, hk, wk⟩ := gt
  have hq : (stepsAlone start1.p0.tables start1.e0 q start1.about).heap.size ≤ start1.about.heap.size + 180 := hsame.2.2.1
  rcases Nat.lt_or_ge q k with hlt | hge
  · have h2 := pz_ended hend
    rw [wk q hlt] at h2
    cases h2
  · obtain ⟨d, rfl⟩ := Nat.exists_eq_add_of_le hge
    have h2 : (stepsAlone start1.p0.tables start1.e0 k start1.about).heap.size ≤ (stepsAlone start1.p0.tables start1.e0 (k + d) start1.about).heap.size := by
      rw [stepsAlone_add]
      exact stepsAlone_heap_le _ _ _ _
    rw [hk] at h2
    omega
/-! ===== END ===== -/
