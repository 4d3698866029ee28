/-! ===== the run of a configuration ===== -/
noncomputable def pz_lq {α β : Type} (l : List α) (k : List α → β) : β := List.rec (motive := fun _ => (List α → β) → β) (fun k => k []) (fun a _ ih k => ih fun t => k (a :: t)) l k
theorem pz_lq_eq {α β : Type} (l : List α) : ∀ k : List α → β, pz_lq l k = k l := by
  induction l with
  | nil => intro k; rfl
  | cons a l ih => intro k; exact ih fun t => k (a :: t)
def pz_fr {β : Type} (f : JFrame) (k : JFrame → β) : β := match f with
  | ⟨h1, h2, h3, h4, h5, h6, h7⟩ => k ⟨h1, h2, h3, h4, h5, h6, h7⟩
theorem pz_fr_eq {β : Type} (f : JFrame) (k : JFrame → β) : pz_fr f k = k f := by cases f; rfl
def pz_ss {β : Type} (s : State) (k : State → β) : β := match s with
  | ⟨h1, h2, h3, h4, h5, h6, h7, h8, h9⟩ => k ⟨h1, h2, h3, h4, h5, h6, h7, h8, h9⟩
theorem pz_ss_eq {β : Type} (s : State) (k : State → β) : pz_ss s k = k s := by cases s; rfl
def pz_code (vm : Vm) (m : MethodId) : Option ByteArray := match vm.classes[m.cls]? with
  | some k => match plainName k.name with
    | true => match k.methods[m.idx]? with
      | some meth => match meth.code with
        | some c => some c.code
        | none => none
      | none => none
    | false => none
  | none => none
def pz_live (S : State) : Bool := match S.status, S.curStatus?, S.alone with
  | .running, some .runnable, true => true
  | _, _, _ => false
def pz_jump (e : Env) (vm : Vm) (i : Instr) (hp : List Cell) (f : JFrame) (r : List Frame) : Option (List Frame) := match i with
  | .invokestatic idx => match pz_q2 f.method.cls idx fun d j => pz_st e vm d j with
    | some (m, n, L) => match pz_args n f.stack with
      | some (args, st) => pz_enter e.platform f r m L args st
      | none => none
    | none => none
  | .invokevirtual idx => match pz_q2 f.method.cls idx fun d j => pz_vt vm d j with
    | some (r0, n) => match pz_args n f.stack with
      | some (args, .ref a :: st) => match hp[a]? with
        | some cl0 => match cl0.vm with
          | .none => match pz_n cl0.cls fun cc => pz_sel e.platform vm cc r0 with
            | some (m, L) => pz_enter e.platform f r m L (.ref a :: args) st
            | none => none
          | _ => none
        | none => none
      | _ => none
    | none => none
  | .invokespecial idx => match pz_q2 f.method.cls idx fun d j => pz_sp vm d j with
    | some (m, n, L) => match pz_args n f.stack with
      | some (args, .ref a :: st) => match hp[a]? with
        | some cl0 => match cl0.vm with
          | .none => match vm.classes[cl0.cls]? with
            | some _ => pz_enter e.platform f r m L (.ref a :: args) st
            | none => none
          | _ => none
        | none => none
      | _ => none
    | none => none
  | i => pz_ret vm i f r
/-- one instruction that isn't the frame's alone -/
def pz_far (e : Env) (vm : Vm) (b : ByteArray) (hp : List Cell) (su : Nat) (f : JFrame) (r : List Frame) : Option (List Cell × Nat × List Frame) := match pz_dec b f.pc with
  | some (i, len) => match pz_f2 i len f with
    | some f' => some (hp, su, .java f' :: r)
    | none => match pz_h1 vm e.platform i len hp su f with
      | some (hp', su', f') => some (hp', su', .java f' :: r)
      | none => match pz_jump e vm i hp f r with
        | some fs => some (hp, su, fs)
        | none => none
  | none => none
abbrev pz_A : Type := Bool × List Cell × Nat × List Frame
/-- many instructions; then one that isn't the frame's alone, if it's known -/
def pz_one (e : Env) (vm : Vm) (hp : List Cell) (su : Nat) (fs : List Frame) : pz_A := match fs with
  | .java f :: b :: r => match pz_q2 f.method.cls f.method.idx fun i j => pz_code vm ⟨i, j⟩ with
    | some bs => pz_fr (pz_fast bs 400 f) fun f0 => match pz_far e vm bs hp su f0 (b :: r) with
      | some (hp', su', fs') => (true, hp', su', fs')
      | none => (false, hp, su, .java f0 :: b :: r)
    | none => (false, hp, su, fs)
  | _ => (false, hp, su, fs)
def pz_enough (hs : Nat) (hp : List Cell) (fs : List Frame) : Bool := match fs with
  | .throwing _ :: _ => Nat.blt hs hp.length
  | _ => false
noncomputable def pz_go (tb : Tables) (e : Env) (hs : Nat) : Nat → State → List Cell → Nat → List Frame → Bool
  | 0, _, _, _, _ => false
  | n + 1, S, hp, su, fs => match pz_one e S.vm hp su fs with
    | (true, hp', su', fs') => pz_go tb e hs n S hp' su' fs'
    | (false, hp', su', fs') => match pz_enough hs hp' fs' with
      | true => true
      | false => match pz_chk (pz_C S hp' su' fs') with
        | false => false
        | true => pz_ss (stepThread tb e (pz_C S hp' su' fs')).1 fun S' => match pz_thr S', pz_live S', S'.heap with
          | true, true, ⟨l⟩ => pz_lq l fun l => pz_n S'.slotsUsed fun u => pz_go tb e hs n S' l u S'.frames
          | _, _, _ => false
section PZ7
variable {p : Program} {e : Env} {S : State}
theorem pz_live_ok (h : pz_live S = true) : S.status = .running ∧ S.curStatus? = some .runnable ∧ S.alone = true := by
  unfold pz_live at h
  split at h
  · rename_i h1 h2 h3
    exact ⟨h1, h2, h3⟩
  · cases h
theorem pz_mkAt (hT : pz_thr S = true) (hL : pz_live S = true) {hp : List Cell} {su : Nat} {f : JFrame} {r : List Frame} {b : ByteArray} (h : pz_code S.vm f.method = some b) : ∃ c, c.code = b ∧ At (pz_C S hp su (.java f :: r)) f.method c r := by
  have hcur := pz_thr_cur hT
  obtain ⟨h1, h2, h3⟩ := pz_live_ok hL
  unfold pz_code at h
  split at h
  · rename_i k hk
    split at h
    · rename_i hpl
      split at h
      · rename_i meth hm
        split at h
        · rename_i c hc
          cases h
          refine ⟨c, rfl, ?_, ⟨[], by rw [pz_C_frames hcur]; rfl⟩, h1, ?_, ?_, ?_, ?_⟩
          · rw [State.topJava?_of_frames (pz_C_frames hcur)]; rfl
          · have a1 : (pz_C S hp su (.java f :: r)).curStatus? = ({ S with heap := ⟨hp⟩, slotsUsed := su } : State).curStatus? := by unfold pz_C; simp
            rw [a1]; exact h2
          · have a1 : (pz_C S hp su (.java f :: r)).alone = ({ S with heap := ⟨hp⟩, slotsUsed := su } : State).alone := State.alone_setFrames _ _
            rw [a1]; exact h3
          · show State.code? (pz_C S hp su (.java f :: r)) f.method = some c
            have hk1 : (pz_C S hp su (.java f :: r)).vm.classes[f.method.cls]? = some k := hk
            unfold State.code?
            simp [hk1, hm, hc]
          · intro k' hk'
            have hk1 : (pz_C S hp su (.java f :: r)).vm.classes[f.method.cls]? = some k := hk
            cases hk1.symm.trans hk'
            rw [hpl]; rfl
        · cases h
      · cases h
    · cases h
  · cases h
theorem pz_jump_ok (hx : p.tables.exec = Jvm.exec) (hT : pz_thr S = true) {c : Code} {hp : List Cell} {su : Nat} {f : JFrame} {r fs : List Frame} {i : Instr} {len : Nat} (hd : decode c.code f.pc = .ok (i, len)) (X : At (pz_C S hp su (.java f :: r)) f.method c r)
    (h : pz_jump e S.vm i hp f r = some fs) : Steps p.tables e r (pz_C S hp su (.java f :: r)) (pz_C S hp su fs) := by
  unfold pz_jump at h
  split at h
  · split at h
    · rename_i m n L hi
      rw [pz_q2_eq] at hi
      split at h
      · rename_i args st ha
        exact pz_static_ok hx hT hd X hi ha h _ (Steps.refl _)
      · cases h
    · cases h
  · split at h
    · rename_i r0 n hi
      rw [pz_q2_eq] at hi
      split at h
      · rename_i args a st ha
        split at h
        · rename_i cl0 hc
          split at h
          · rename_i hv
            split at h
            · rename_i m L hsel
              rw [pz_n_eq] at hsel
              exact pz_virtual_ok hx hT hd X hi ha hc hv hsel h _ (Steps.refl _)
            · cases h
          · cases h
        · cases h
      · cases h
    · cases h
  · split at h
    · rename_i m n L hi
      rw [pz_q2_eq] at hi
      split at h
      · rename_i args a st ha
        split at h
        · rename_i cl0 hc
          split at h
          · rename_i hv
            split at h
            · rename_i kc hkc
              exact pz_special_ok hx hT hd X hi ha hc hv hkc h _ (Steps.refl _)
            · cases h
          · cases h
        · cases h
      · cases h
    · cases h
  · exact pz_ret_ok hx (pz_thr_cur hT) hd X h _ rfl
theorem pz_far_ok (hx : p.tables.exec = Jvm.exec) (hT : pz_thr S = true) {c : Code} {hp hp' : List Cell} {su su' : Nat} {f : JFrame} {r fs : List Frame} (X : At (pz_C S hp su (.java f :: r)) f.method c r)
    (h : pz_far e S.vm c.code hp su f r = some (hp', su', fs)) : Steps p.tables e r (pz_C S hp su (.java f :: r)) (pz_C S hp' su' fs) := by
  have hcur := pz_thr_cur hT
  have hself : (pz_C S hp su (.java f :: r)).setTop f = pz_C S hp su (.java f :: r) := pz_C_top hcur
  unfold pz_far at h
  split at h
  · rename_i i len hd0
    have hd := pz_dec_ok hd0
    split at h
    · rename_i f' h2
      cases h
      have := (pz_f2_ok (p := p) (e := e) (tg := (pz_C S hp su (.java f :: r)).setTop f') hx hd h2 X).2 (Steps.refl _)
      rw [hself, pz_C_top hcur] at this
      exact this
    · split at h
      · rename_i hp1 su1 f1 h3
        cases h
        exact (pz_h1_ok hx hcur hd X h3).2.2 _ (Steps.refl _)
      · split at h
        · rename_i fs' h4
          cases h
          exact pz_jump_ok hx hT hd X h4
        · cases h
  · cases h
theorem pz_one_ok (hx : p.tables.exec = Jvm.exec) (hT : pz_thr S = true) (hL : pz_live S = true) {hp hp' : List Cell} {su su' : Nat} {fs fs' : List Frame} {q : Bool} (h : pz_one e S.vm hp su fs = (q, hp', su', fs')) :
    pz_Go p.tables e (pz_C S hp su fs) (pz_C S hp' su' fs') := by
  have hcur := pz_thr_cur hT
  unfold pz_one at h
  split at h
  · rename_i f b r
    split at h
    · rename_i bs hb
      rw [pz_q2_eq] at hb
      have hb1 : pz_code S.vm f.method = some bs := hb
      obtain ⟨c, rfl, X⟩ := pz_mkAt (hp := hp) (su := su) (f := f) (r := b :: r) hT hL hb1
      have hself : (pz_C S hp su (.java f :: b :: r)).setTop f = pz_C S hp su (.java f :: b :: r) := pz_C_top hcur
      have hne : (b :: r) ≠ [] := by simp
      obtain ⟨hm, hfa⟩ := pz_fast_ok (p := p) (e := e) (tg := (pz_C S hp su (.java f :: b :: r)).setTop (pz_fast c.code 400 f)) hx 400 f X
      have h0 : Steps p.tables e (b :: r) (pz_C S hp su (.java f :: b :: r)) (pz_C S hp su (.java (pz_fast c.code 400 f) :: b :: r)) := by
        have := hfa (Steps.refl _)
        rw [hself, pz_C_top hcur] at this
        exact this
      have X0 : At (pz_C S hp su (.java (pz_fast c.code 400 f) :: b :: r)) (pz_fast c.code 400 f).method c (b :: r) := by rw [hm]; exact pz_At hcur X
      rw [pz_fr_eq] at h
      split at h
      · rename_i hp1 su1 fs1 hfar
        cases h
        exact (pz_Go.of hne h0).trans (pz_Go.of hne (pz_far_ok hx hT X0 hfar))
      · cases h
        exact pz_Go.of hne h0
    · cases h
      exact pz_Go.refl _
  · cases h
    exact pz_Go.refl _
theorem pz_C_self {s : State} (h : pz_thr s = true) : pz_C s s.heap.toList s.slotsUsed s.frames = s := by
  unfold pz_thr at h
  split at h
  · rename_i t ht
    show s.setFrames s.frames = s
    exact State.setFrames_self ht
  · cases h
theorem pz_go_ok (hx : p.tables.exec = Jvm.exec) (hs : Nat) : ∀ (n : Nat) (S : State) (hp : List Cell) (su : Nat) (fs : List Frame), pz_thr S = true → pz_live S = true → pz_go p.tables e hs n S hp su fs = true →
    ∃ t, pz_Go p.tables e (pz_C S hp su fs) t ∧ hs < t.heap.size := by
  intro n
  induction n with
  | zero => intro S hp su fs _ _ h; cases h
  | succ n ih =>
    intro S hp su fs hT hL h
    unfold pz_go at h
    split at h
    · rename_i hp' su' fs' h1
      obtain ⟨t, gt, ht⟩ := ih _ _ _ _ hT hL h
      exact ⟨t, (pz_one_ok hx hT hL h1).trans gt, ht⟩
    · rename_i hp' su' fs' h1
      have g1 := pz_one_ok (p := p) hx hT hL h1
      split at h
      · rename_i h2
        refine ⟨_, g1, ?_⟩
        unfold pz_enough at h2
        split at h2
        · exact Nat.le_of_ble_eq_true h2
        · cases h2
      · split at h
        · cases h
        · rename_i h3
          rw [pz_ss_eq] at h
          split at h
          · rename_i l h4 h5 h6
            rw [pz_lq_eq, pz_n_eq] at h
            obtain ⟨t, gt, ht⟩ := ih _ _ _ _ h4 h5 h
            have h7 := pz_C_self h4
            rw [h6] at h7
            rw [h7] at gt
            exact ⟨t, (g1.trans (pz_Go.step h3)).trans gt, ht⟩
          · cases h
end PZ7
/-- a run that passes the claim's room while nothing has ended: the claim is false -/
theorem pz_false2 {n : Nat} (h0 : pz_thr start1.about = true) (h1 : pz_live start1.about = true)
    (h : pz_go start1.p0.tables start1.e0 (start1.about.heap.size + 180) n start1.about start1.about.heap.toList start1.about.slotsUsed start1.about.frames = true) : ¬ Claimed_1_1 := by
  intro hA
  obtain ⟨hL, hW, had, -, hcas, hclk, hfr, hfit, hheap, happ, hcalls, hrest, hpre⟩ := start1.atStart
  obtain ⟨q, o, -, -, hend, -, -, -, hsame⟩ := hA launch0 rfl hL hW start1.p0 start1.e0 had hcas hclk start1.about _ start1.args0 Lib.HandBits.below0 hfr hfit hheap happ ⟨hcalls, hrest, hpre⟩
  obtain ⟨t, gt, ht⟩ := pz_go_ok rfl _ _ _ _ _ _ h0 h1 h
  rw [pz_C_self h0] at gt
  obtain ⟨k, hk, wk⟩ := gt
  have hq : (stepsAlone start1.p0.tables start1.e0 q start1.about).heap.size ≤ start1.about.heap.size + 180 := hsame.2.2.1
  rcases Nat.lt_or_ge q k with hlt | hge
  · have h2 := pz_ended hend
    rw [wk q hlt] at h2
    cases h2
  · obtain ⟨d, rfl⟩ := Nat.exists_eq_add_of_le hge
    have h2 : (stepsAlone start1.p0.tables start1.e0 k start1.about).heap.size ≤ (stepsAlone start1.p0.tables start1.e0 (k + d) start1.about).heap.size := by
      rw [stepsAlone_add]
      exact stepsAlone_heap_le _ _ _ _
    rw [hk] at h2
    omega
/-! ===== END ===== -/
