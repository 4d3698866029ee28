/-! ===== an exception on its way ===== -/
noncomputable def pz_find (vm : Vm) (cc d pc : Nat) (es : List ExceptionTableEntry) : Option (Option Nat) := List.rec (motive := fun _ => Option (Option Nat)) (some none) (fun x _ ih => match covers x pc with
  | false => ih
  | true => match Nat.beq x.catchType 0 with
    | true => some (some x.handlerPc)
    | false => match pz_clr vm d x.catchType with
      | some c => match vm.classes[c]?, vm.classes[cc]? with
        | some _, some _ => match vm.assignable cc c with
          | true => some (some x.handlerPc)
          | false => ih
        | _, _ => none
      | none => none) es
def pz_ans : Option Nat → Handler
  | none => .none
  | some pc => .found pc
theorem pz_find_ok {e : Env} {s : State} {f : JFrame} {a : Addr} {cl0 : Cell} (hc : s.heap[a]? = some cl0) (hv : cl0.vm = .none) (es : List ExceptionTableEntry) {o : Option Nat} (h : pz_find s.vm cl0.cls f.method.cls f.pc es = some o) :
    ∀ (Q : Handler → Pre) (E : CtlPost) (d : Bool) (acts : List Action), wp (findHandler.go f a es) Q E e d acts s ↔ Q (pz_ans o) d acts s := by
  induction es with
  | nil =>
    intro Q E d acts
    have h1 : some none = some o := h
    cases h1
    exact W.findHandler_go_nil
  | cons x t ih =>
    intro Q E d acts
    have h1 : (match covers x f.pc with
      | false => pz_find s.vm cl0.cls f.method.cls f.pc t
      | true => match Nat.beq x.catchType 0 with
        | true => some (some x.handlerPc)
        | false => match pz_clr s.vm f.method.cls x.catchType with
          | some c => match s.vm.classes[c]?, s.vm.classes[cl0.cls]? with
            | some _, some _ => match s.vm.assignable cl0.cls c with
              | true => some (some x.handlerPc)
              | false => pz_find s.vm cl0.cls f.method.cls f.pc t
            | _, _ => none
          | none => none) = some o := h
    split at h1
    · rename_i hcov
      rw [W.findHandler_go_skip hcov]
      exact ih h1 Q E d acts
    · rename_i hcov
      split at h1
      · rename_i h0
        cases h1
        exact W.findHandler_go_any hcov (Nat.eq_of_beq_eq_true h0)
      · rename_i h0
        have h0' : x.catchType ≠ 0 := fun q => by rw [q] at h0; cases h0
        split at h1
        · rename_i c hr
          split at h1
          · rename_i k1 k2 g1 g2
            rw [W.findHandler_go_class hcov h0' (pz_clr_ok hr) hc (fun k q => by rw [hv] at q; cases q) ⟨_, g2⟩ ⟨_, g1⟩]
            split at h1
            · rename_i hfit
              cases h1
              rw [if_pos hfit]
              rfl
            · rename_i hfit
              rw [if_neg (by rw [hfit]; decide)]
              exact ih h1 Q E d acts
          · cases h1
        · cases h1
/-- the handler in a method that takes no monitor -/
noncomputable def pz_look (vm : Vm) (i j cc pc : Nat) : Option (Option Nat) := match vm.method? ⟨i, j⟩ with
  | some meth => match meth.code, meth.locks with
    | some c, false => pz_find vm cc i pc c.exceptionTable.toList
    | _, _ => none
  | none => none
noncomputable def pz_thrw (vm : Vm) (hp : List Cell) (fs : List Frame) : Option (List Frame) := match fs with
  | .throwing a :: .java g :: b :: r => match pz_at hp a with
    | some cl0 => match cl0.vm with
      | .none => match pz_q2 g.method.cls g.method.idx fun i j => pz_q2 cl0.cls g.pc fun cc pc => pz_look vm i j cc pc with
        | some none => match g.locked, g.entered with
          | none, [] => some (.throwing a :: b :: r)
          | _, _ => none
        | some (some pc) => pz_n pc fun pc => some (.java { g with pc := pc, stack := [.ref a] } :: b :: r)
        | none => none
      | _ => none
    | none => none
  | _ => none
section PZB
variable {p : Program} {e : Env} {S : State}
theorem pz_C_chk (hT : pz_thr S = true) (hL : pz_live S = true) {hp : List Cell} {su : Nat} {fs : List Frame} (hu : pz_up fs = true) : pz_chk (pz_C S hp su fs) = true := by
  have hcur := pz_thr_cur hT
  obtain ⟨h1, h2, h3⟩ := pz_live_ok hL
  have a0 : (pz_C S hp su fs).status = .running := h1
  have a1 : (pz_C S hp su fs).curStatus? = some .runnable := by
    have : (pz_C S hp su fs).curStatus? = ({ S with heap := ⟨hp⟩, slotsUsed := su } : State).curStatus? := by unfold pz_C; simp
    rw [this]; exact h2
  have a2 : (pz_C S hp su fs).alone = true := by
    have : (pz_C S hp su fs).alone = ({ S with heap := ⟨hp⟩, slotsUsed := su } : State).alone := State.alone_setFrames _ _
    rw [this]; exact h3
  unfold pz_chk
  rw [pz_C_frames hcur, hu, a0, a1, a2]
theorem pz_thrw_ok (hT : pz_thr S = true) (hL : pz_live S = true) {hp : List Cell} {su : Nat} {fs fs' : List Frame} (h : pz_thrw S.vm hp fs = some fs') : pz_Go p.tables e (pz_C S hp su fs) (pz_C S hp su fs') := by
  have hcur := pz_thr_cur hT
  unfold pz_thrw at h
  split at h
  · rename_i a g b r
    rw [pz_at_eq] at h
    split at h
    · rename_i cl0 hc
      split at h
      · rename_i hv
        rw [pz_q2_eq, pz_q2_eq] at h
        have hgo := pz_Go.step (tb := p.tables) (e := e) (pz_C_chk (hp := hp) (su := su) (fs := .throwing a :: .java g :: b :: r) hT hL rfl)
        have hst : stepThread p.tables e (pz_C S hp su (.throwing a :: .java g :: b :: r)) = stepThrowing e (pz_C S hp su (.throwing a :: .java g :: b :: r)) a (.java g :: b :: r) := stepThread_throwing (pz_C_frames hcur)
        rw [hst] at hgo
        have hc1 : (pz_C S hp su (.throwing a :: .java g :: b :: r)).heap[a]? = some cl0 := (pz_C_get ..).trans hc
        have key : ∀ o, pz_look S.vm g.method.cls g.method.idx cl0.cls g.pc = some o → ∃ meth, S.vm.method? g.method = some meth ∧ meth.locks = false ∧ Finds e (pz_C S hp su (.throwing a :: .java g :: b :: r)) g a (pz_ans o) := by
          intro o ho
          unfold pz_look at ho
          split at ho
          · rename_i meth hm
            split at ho
            · rename_i c hcd hl
              refine ⟨meth, hm, hl, fun Q E d acts => ?_⟩
              have hm1 : (pz_C S hp su (.throwing a :: .java g :: b :: r)).vm.method? g.method = some meth := hm
              rw [W.findHandler_eq hm1 hcd]
              exact pz_find_ok (s := pz_C S hp su (.throwing a :: .java g :: b :: r)) hc1 hv _ ho Q E d acts
            · cases ho
          · cases ho
        split at h
        · rename_i hlk
          obtain ⟨meth, hm, hl, hf⟩ := key _ hlk
          split at h
          · rename_i h1 h2
            cases h
            have hm1 : (pz_C S hp su (.throwing a :: .java g :: b :: r)).vm.method? g.method = some meth := hm
            rw [(stepThrowing_leave (s := pz_C S hp su (.throwing a :: .java g :: b :: r)) (r := b :: r) hm1 hl h1 h2 hf).1] at hgo
            have : (pz_C S hp su (.throwing a :: .java g :: b :: r)).setFrames (.throwing a :: b :: r) = pz_C S hp su (.throwing a :: b :: r) := State.setFrames_setFrames _ _ _
            rw [this] at hgo
            exact hgo
          · cases h
        · rename_i pc hlk
          obtain ⟨meth, hm, hl, hf⟩ := key _ hlk
          rw [pz_n_eq] at h
          cases h
          rw [(stepThrowing_catch (s := pz_C S hp su (.throwing a :: .java g :: b :: r)) (r := b :: r) hf).1] at hgo
          have : (pz_C S hp su (.throwing a :: .java g :: b :: r)).setFrames (.java { g with pc := pc, stack := [.ref a] } :: b :: r) = pz_C S hp su (.java { g with pc := pc, stack := [.ref a] } :: b :: r) := State.setFrames_setFrames _ _ _
          rw [this] at hgo
          exact hgo
        · cases h
      · cases h
    · cases h
  · cases h
end PZB
/-! ===== END ===== -/
