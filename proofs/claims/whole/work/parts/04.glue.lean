/-! ===== BEGIN a callee that returns with no new cell, or throws with mc new cells (turned from the kit's vx_ rows) ===== -/
section TYX
def ty_Q (Qc : Array Value → State → Outcome → State → Prop) (XC : String → State → State → Prop) (mc ms : Nat) (free : Addr → Prop) : Array Value → State → Outcome → State → Prop := fun a st o t =>
  (Qc a st o t ∧ ∃ L, FrameEnd st o t L 0 0 ∧ ∀ q ∈ L, free q.base) ∨ ∃ q, o = .threw q ∧ vx_T XC st q t mc ms free
def ty_Met (l : Launch) (y : MethodName) (ws : List Cond) (rm : Room) (Pc : Array Value → State → Prop) (Qc : Array Value → State → Outcome → State → Prop) (XC : String → State → State → Prop) (mc ms : Nat) (free : Addr → Prop) : Prop :=
  MetFree l y (headSpec ws rm) Pc (fun _ _ _ _ _ => True) (ty_Q Qc XC mc ms free)
section Payer
variable {l : Launch} {R : Room} {p : Program} {e : Env} {below : List Frame} {s : State} {sargs : Array Value} {y : MethodName} {len W9 : Nat}
theorem ty_back {ws : List Cond} {rm : Room} {Pc : Array Value → State → Prop} {Qc : Array Value → State → Outcome → State → Prop} {XC : String → State → State → Prop} {mc ms : Nat} {free : Addr → Prop} {bytes : ByteArray} {maxL : Nat} {ret : Option FieldType}
    (hM : ty_Met l y ws rm Pc Qc XC mc ms free) (hblind : FrameBlind Pc) (hrc : rm.cells = mc) (hrs : rm.slots = ms)
    (hframes : rm.frames + 1 ≤ R.frames) (hlocals : W9 + (maxL + 11) + rm.locals ≤ R.locals)
    (hws : ∀ w ∈ ws, ∀ a' U, s.WarmedH U.vm → w.before a' U = true) (hcode : Cond.code y bytes maxL ret ∈ ws) (hinit : ∀ a' U, s.WarmedH U.vm → (Cond.initialized y.cls).before a' U = true) :
    vx_Back l R p e below s sargs y len W9 (PreOf R mc ms Pc) (PostOf Qc 0 0 free) (vx_Post XC mc ms free) := by
  intro m meth c A g ig mk a X hg hsize hdg hW hn hp
  have h1 : (headSpec ws rm).pre.before a A.U = true := atoms_intro fun w hw => hws w hw _ _ X.warmed
  have h2 : (Cond.code y bytes maxL ret).before a A.U = true := hws _ hcode _ _ X.warmed
  have h3 : (Cond.initialized y.cls).before a A.U = true := hinit _ _ X.warmed
  have h4 : A.cells + (headSpec ws rm).room.cells ≤ R.cells := by rw [show (headSpec ws rm).room.cells = mc from hrc]; exact hp.1
  have h5 : A.slots + (headSpec ws rm).room.slots ≤ R.slots := by rw [show (headSpec ws rm).room.slots = ms from hrs]; exact hp.2.1
  have hPc : Pc a (A.U.calling g mk a) := hblind _ _ _ _ hp.2.2
  obtain ⟨U, Ls, c0, s0⟩ := A
  dsimp only [Pt.U, Pt.locs, Pt.cells, Pt.slots] at h1 h2 h3 h4 h5 X hn hPc ⊢
  obtain ⟨methY, cY, hmY, hcY, -, hlY, -, -, -, -⟩ := Cond.code_spec hn h2
  obtain ⟨kY, hkY, -⟩ := className_of_methodNamed hn
  have hinitY : kY.init = .initialized := Cond.initialized_spec (findClass_of_methodNamed hn) hkY h3
  have h : At U g.method c below := by rw [hg]; exact X.here
  have hlocals9 : W9 + (maxL + 11) + (headSpec ws rm).room.locals ≤ R.locals := hlocals
  have happ : (headSpec ws rm).appliesLoose y e.platform (U.calling g mk a) = true :=
    Spec.appliesLoose_calling (g := g) h hdg hn hkY hinitY
      (X.room_calling (g := g) (R' := (headSpec ws rm).room) hsize hmY hcY hframes (by rw [hlY]; omega) h4 h5) h1
  obtain ⟨mid, hmid⟩ := h.above
  have hfr : (U.setTop g).frames = (.java g :: mid) ++ below := by rw [State.frames_setTop' g h.top, hmid]; rfl
  obtain ⟨o, s₂, hsteps, -, hend, hq⟩ := Steps.callFree hM p X.admits X.cas X.clock (acts := []) hfr happ hPc trivial
  have hq' : ty_Q Qc XC mc ms free a (U.calling g mk a) o s₂ := hq
  rw [State.frames_setTop' g h.top] at hend
  obtain ⟨g₀, hg0⟩ := Option.isSome_iff_exists.mp h.top
  obtain ⟨r, hr⟩ := State.topJava?_eq_some.mp hg0
  have hr' : (({ U with heap := s₂.heap, slotsUsed := s₂.slotsUsed } : State).setVm s₂.vm).frames = .java g₀ :: r := hr
  rcases hq' with ⟨hqc, L, hfe, hL⟩ | ⟨q, rfl, E, ce, L, hx, hce, hcv, hcl, hW₂, hsm, hL⟩
  · obtain ⟨⟨v, rfl⟩, hW₂, e2, q2, q3, q4, q5, q6⟩ := id hfe
    have e3 : s₂ = ({ (U.calling g mk a).setFrames s₂.frames with heap := s₂.heap, slotsUsed := s₂.slotsUsed } : State).setVm s₂.vm := by
      have : s₂ = ({ s₂ with vm := (U.calling g mk a).vm } : State).setVm s₂.vm := rfl
      rw [e2] at this
      exact this
    obtain ⟨c₂, i₂, len₂, hc₂, hd₂, hf₂⟩ := hend
    have hW' : U.WarmedH s₂.vm := hW₂
    have hcc : c₂ = c := by
      have h1 : s₂.code? g.method = U.code? g.method := by
        rw [State.code?_eq, State.code?_eq, hW'.alike.method?]
      exact Option.some.inj (hc₂.symm.trans (h1.trans h.code))
    subst hcc
    have hlen : len₂ = len := by rw [hdg] at hd₂; cases hd₂; rfl
    subst hlen
    have hs₂ : s₂ = (({ U with heap := s₂.heap, slotsUsed := s₂.slotsUsed } : State).setVm s₂.vm).setTop { g with pc := g.pc + len₂, stack := v.toList ++ g.stack } := by
      refine e3.trans ?_
      rw [hf₂, State.calling_eq h.top, State.setFrames_setFrames, State.setTop_of_frames _ hr', hr]
      rfl
    have hsame : U.sameButNew ({ U with heap := s₂.heap, slotsUsed := s₂.slotsUsed } : State) L 0 0 := by
      refine ⟨?_, q2, q3, q4, q5, q6⟩
      obtain ⟨t, ht, -⟩ := State.frames_cons hr
      show ({ U with heap := s₂.heap, slotsUsed := s₂.slotsUsed } : State) = { U.setFrames U.frames with heap := s₂.heap, slotsUsed := s₂.slotsUsed }
      rw [State.setFrames_self ht]
    subst hg
    refine Or.inl ⟨v, ⟨(({ U with heap := s₂.heap, slotsUsed := s₂.slotsUsed } : State).setVm s₂.vm), Ls ++ L, c0 + 0, s0 + 0⟩,
      ⟨X.admits, X.cas, X.clock, X.frames, X.room, X.hears, X.method, X.code, (X.here.setHeapUsed s₂.heap s₂.slotsUsed).setVm hW'.alike, X.tail, State.WarmedH.trans X.warmed hW', X.limits, X.bytes, X.same.trans (hsame.setVm s.vm)⟩,
      ⟨g, mk, s₂, L, rfl, rfl, hqc, rfl, hL, rfl, rfl⟩, ?_⟩
    show Steps p.tables e below _ ((({ U with heap := s₂.heap, slotsUsed := s₂.slotsUsed } : State).setVm s₂.vm).setTop { g with pc := g.pc + len₂, stack := v.toList ++ g.stack })
    rw [← hs₂]
    exact hsteps
  · obtain ⟨e2, q2, q3, q4, q5, q6⟩ := id hsm
    have e3 : s₂ = ({ (U.calling g mk a).setFrames s₂.frames with heap := s₂.heap, slotsUsed := s₂.slotsUsed } : State).setVm s₂.vm := by
      have : s₂ = ({ s₂ with vm := (U.calling g mk a).vm } : State).setVm s₂.vm := rfl
      rw [e2] at this
      exact this
    have hf₂ : s₂.frames = .throwing q :: .java g :: U.frames.tail := hend
    have hW' : U.WarmedH s₂.vm := hW₂
    have hs₂ : s₂ = ((({ U with heap := s₂.heap, slotsUsed := s₂.slotsUsed } : State).setVm s₂.vm).setTop g).pushFrame (.throwing q) := by
      refine e3.trans ?_
      rw [hf₂, State.calling_eq h.top, State.setFrames_setFrames, State.pushFrame, State.frames_setTop _ hr', State.setTop_of_frames _ hr', State.setFrames_setFrames, hr]
      rfl
    have hsame : U.sameButNew ({ U with heap := s₂.heap, slotsUsed := s₂.slotsUsed } : State) L mc ms := by
      refine ⟨?_, q2, q3, q4, q5, q6⟩
      obtain ⟨t, ht, -⟩ := State.frames_cons hr
      show ({ U with heap := s₂.heap, slotsUsed := s₂.slotsUsed } : State) = { U.setFrames U.frames with heap := s₂.heap, slotsUsed := s₂.slotsUsed }
      rw [State.setFrames_self ht]
    subst hg
    refine Or.inr ⟨q, ⟨(({ U with heap := s₂.heap, slotsUsed := s₂.slotsUsed } : State).setVm s₂.vm), Ls ++ L, c0 + mc, s0 + ms⟩,
      ⟨X.admits, X.cas, X.clock, X.frames, X.room, X.hears, X.method, X.code, (X.here.setHeapUsed s₂.heap s₂.slotsUsed).setVm hW'.alike, X.tail, State.WarmedH.trans X.warmed hW', X.limits, X.bytes, X.same.trans (hsame.setVm s.vm)⟩,
      ⟨g, mk, s₂, L, E, ce, rfl, rfl, hx, hce, hcv, hcl, rfl, hL, rfl, rfl⟩, ?_⟩
    show Steps p.tables e below _ (((({ U with heap := s₂.heap, slotsUsed := s₂.slotsUsed } : State).setVm s₂.vm).setTop g).pushFrame (.throwing q))
    rw [← hs₂]
    exact hsteps
end Payer
def ty_Run (p : Program) (l : Launch) (e : Env) (R : Room) (s : State) (m : MethodId) (args : Array Value) (below : List Frame) (meth : Method) (c : Code) (H : Heap) (locs : List Loc) (cells slots mc ms : Nat) (g : JFrame) (rest : List Value) (Qa : State → Outcome → State → Prop) (XC : String → State → State → Prop) (free : Addr → Prop) : Prop :=
  ∀ T : State, T.heap = H → Stand p l e R s m args below meth c T locs cells slots →
    (∃ (v : Option Value) (st₀ t T' : State) (L : List Loc), st₀.heap = H ∧ Stand p l e R s m args below meth c T' (locs ++ L) (cells + 0) (slots + 0) ∧ (∀ q ∈ L, free q.base) ∧ T'.heap = t.heap ∧ T'.vm = t.vm ∧ Qa st₀ (.returned v) t ∧
      Goes p e below T g T' { g with pc := g.pc + 3, stack := v.toList ++ rest }) ∨
    (∃ (q : Addr) (st₀ t T' : State) (L : List Loc) (E : String) (ce : Cell), st₀.heap = H ∧ Stand p l e R s m args below meth c T' (locs ++ L) (cells + mc) (slots + ms) ∧ (∀ z ∈ L, free z.base) ∧ T'.heap = t.heap ∧ T'.vm = t.vm ∧ XC E st₀ t ∧ t.heap[q]? = some ce ∧ ce.vm = .none ∧ s.vm.findClass E = some ce.cls ∧
      Steps p.tables e below (T.setTop g) ((T'.setTop { g with stack := rest }).pushFrame (.throwing q)))
section Runs
variable {p : Program} {l : Launch} {e : Env} {R : Room} {s : State} {m : MethodId} {args : Array Value} {below : List Frame} {meth : Method} {c : Code} {H : Heap} {locs : List Loc} {cells slots : Nat}
variable {y : MethodName} {bytes cc : ByteArray} {maxL nL mc ms n index : Nat} {ret : Option FieldType} {ws : List Cond} {rm : Room} {Pc : Array Value → State → Prop} {Qc : Array Value → State → Outcome → State → Prop} {XC : String → State → State → Prop} {free : Addr → Prop} {Ts : List Cond} {own C : String} {b : Addr} {As rest : List Value} {g : JFrame}
theorem ty_callBack (cb : CallB R s args own index y bytes maxL ret ws rm mc ms n) (hM : ty_Met l y ws rm Pc Qc XC mc ms free) (hbl : FrameBlind Pc) : vx_Back l R p e below s args y 3 8 (PreOf R mc ms Pc) (PostOf Qc 0 0 free) (vx_Post XC mc ms free) := by
  obtain ⟨hrc, hrs, hfr, hlo, hws, hcw, -, hini, -⟩ := cb
  exact ty_back (bytes := bytes) (maxL := maxL) (ret := ret) hM hbl hrc hrs hfr hlo hws hcw (fun a' U hW => word_at hW (Or.inl (by first | rfl | simp [Cond.onTables, Cond.keeps, Cond.steady])) hini)
theorem ty_runV (S : CallFix p m c cc nL s args Ts own) (hM : ty_Met l y ws rm Pc Qc XC mc ms free) (cw : CallW R s args own C index y bytes maxL ret ws rm mc ms n) (hp : PreV s H C b Pc As)
    (hg : g.method = m) (hn : As.length = n) (hsize : g.locals.size = nL) (hstack : g.stack = As.reverse ++ .ref b :: rest) (hW : 2 * g.monitorRoom + (rest.map fun v => v.category).sum ≤ 8) (hdg : decode cc g.pc = .ok (.invokevirtual index, 3)) (hf : cells + mc ≤ R.cells ∧ slots + ms ≤ R.slots) :
    ty_Run p l e R s m args below meth c H locs cells slots mc ms g rest (Qc (Value.ref b :: As).toArray) XC free := by
  have hK : vx_Back l R p e below s args y 3 8 (PreOf R mc ms Pc) (PostOf Qc 0 0 free) (vx_Post XC mc ms free) := ty_callBack cw.1 hM hp.1
  obtain ⟨⟨-, -, -, -, -, -, hcode, -, hy, hlen, hl⟩, hin, hse⟩ := cw
  obtain ⟨hx, hb, hml, ho, -⟩ := S
  obtain ⟨-, ⟨cellB, hcB, hoB, hclB⟩, hPc⟩ := hp
  intro T hT X
  rcases vx_callV X hx (C := C) (bytes := bytes) (maxL := maxL) (ret := ret) ho hl hin hse hcode hy hK (by rw [hT]; exact hcB) hoB hclB hg (hsize.trans hml.symm) (argsL := As) (rest := rest) (fun sig h => hn.trans (hlen sig h)) hstack hW (by rw [hb]; exact hdg)
    (fun vm₁ hW₁ => ⟨hf.1, hf.2, hPc (T.setVm vm₁) hT hW₁⟩) with ⟨v, vm₁, ⟨U', l2, c2, s2⟩, hW₁, X', ⟨g', mk, t, L, e1, e2, hq, h1, hL, h2, h3⟩, st⟩ | ⟨q, vm₁, ⟨U', l2, c2, s2⟩, hW₁, X', ⟨g', mk, t, L, E, ce, e1, e2, hq, hce, hcv, hcl, h1, hL, h2, h3⟩, st⟩
  · dsimp only [Pt.U, Pt.locs, Pt.cells, Pt.slots] at X' e1 e2 h1 h2 h3 st
    subst h1; subst h2; subst h3
    exact Or.inl ⟨v, (T.setVm vm₁).calling g' mk (Value.ref b :: As).toArray, t, U', L, hT, X', hL, e1, e2, hq, st⟩
  · dsimp only [Pt.U, Pt.locs, Pt.cells, Pt.slots] at X' e1 e2 h1 h2 h3 st hcl
    subst h1; subst h2; subst h3
    exact Or.inr ⟨q, (T.setVm vm₁).calling g' mk (Value.ref b :: As).toArray, t, U', L, E, ce, hT, X', hL, e1, e2, hq, hce, hcv, vx_cls hW₁ hcl, st⟩
theorem ty_runS (S : CallFix p m c cc nL s args Ts own) (hM : ty_Met l y ws rm Pc Qc XC mc ms free) (cw : CallB R s args own index y bytes maxL ret ws rm mc ms n ∧ (Cond.static y).before args s = true) (hp : PreS s H Pc As)
    (hg : g.method = m) (hn : As.length = n) (hsize : g.locals.size = nL) (hstack : g.stack = As.reverse ++ rest) (hW : 2 * g.monitorRoom + (rest.map fun v => v.category).sum ≤ 8) (hdg : decode cc g.pc = .ok (.invokestatic index, 3)) (hf : cells + mc ≤ R.cells ∧ slots + ms ≤ R.slots) :
    ty_Run p l e R s m args below meth c H locs cells slots mc ms g rest (Qc As.toArray) XC free := by
  have hK : vx_Back l R p e below s args y 3 8 (PreOf R mc ms Pc) (PostOf Qc 0 0 free) (vx_Post XC mc ms free) := ty_callBack cw.1 hM hp.1
  obtain ⟨⟨-, -, -, -, -, -, hcode, hini, hy, hlen, hl⟩, hstt⟩ := cw
  obtain ⟨hx, hb, hml, ho, -⟩ := S
  intro T hT X
  rcases vx_callS X hx (bytes := bytes) (maxL := maxL) (ret := ret) ho hl hstt hini hcode hy hK hg (hsize.trans hml.symm) (argsL := As) (rest := rest) (fun sig h => hn.trans (hlen sig h)) hstack hW (by rw [hb]; exact hdg)
    (fun vm₁ hW₁ => ⟨hf.1, hf.2, hp.2 (T.setVm vm₁) hT hW₁⟩) with ⟨v, vm₁, ⟨U', l2, c2, s2⟩, hW₁, X', ⟨g', mk, t, L, e1, e2, hq, h1, hL, h2, h3⟩, st⟩ | ⟨q, vm₁, ⟨U', l2, c2, s2⟩, hW₁, X', ⟨g', mk, t, L, E, ce, e1, e2, hq, hce, hcv, hcl, h1, hL, h2, h3⟩, st⟩
  · dsimp only [Pt.U, Pt.locs, Pt.cells, Pt.slots] at X' e1 e2 h1 h2 h3 st
    subst h1; subst h2; subst h3
    exact Or.inl ⟨v, (T.setVm vm₁).calling g' mk As.toArray, t, U', L, hT, X', hL, e1, e2, hq, st⟩
  · dsimp only [Pt.U, Pt.locs, Pt.cells, Pt.slots] at X' e1 e2 h1 h2 h3 st hcl
    subst h1; subst h2; subst h3
    exact Or.inr ⟨q, (T.setVm vm₁).calling g' mk As.toArray, t, U', L, E, ce, hT, X', hL, e1, e2, hq, hce, hcv, vx_cls hW₁ hcl, st⟩
end Runs
theorem ty_ofW {l : Launch} {y : MethodName} {ws ws' : List Cond} {rm : Room} {Pc : Array Value → State → Prop} {Qc : Array Value → State → Outcome → State → Prop} {XC : String → State → State → Prop} {mc ms : Nat} {free : Addr → Prop} {cc : ByteArray} {maxL : Nat} {ret : Option FieldType}
    (hy : plainName y.cls = true) (hw : ws = Cond.code y cc maxL ret :: ws')
    (body : ∀ p e s m args below meth c s₁, BodyLoose p l y (headSpec ws rm) cc maxL ret e s m args below meth c s₁ → c.maxLocals = maxL → (∀ x ∈ c.exceptionTable.toList, False) → Pc args s →
      W p l e (headSpec ws rm).room s m args below meth c s.heap [] 0 0 (fun t => ∃ o, t.status = .running ∧ Ended t below o ∧ ty_Q Qc XC mc ms free args s o t) (entryFrame m args maxL)) : ty_Met l y ws rm Pc Qc XC mc ms free := by
  refine MetFree.of_bodyS (code := cc) (maxLocals := maxL) (ret := ret) hy ?_ ?_
  · intro args s m h hn
    obtain ⟨meth, c, h1, h2, h3, h4, h5, h6, -, -⟩ := Cond.code_spec hn (atoms_spec (ws := ws) h _ (by rw [hw]; exact List.mem_cons_self))
    exact ⟨meth, c, h1, h2, h3, h4, h5, h6⟩
  · intro p e s m args below meth c s₁ B hml hP _
    have hh0 : s₁.heap = s.heap := by rw [B.state]; rfl
    have ht : ∀ x ∈ c.exceptionTable.toList, False := by
      obtain ⟨meth9, c9, h1, h2, -, -, -, -, h7, -⟩ := Cond.code_spec B.named (atoms_spec (ws := ws) B.pre _ (by rw [hw]; exact List.mem_cons_self))
      cases Option.some.inj (h1.symm.trans B.method)
      cases Option.some.inj (h2.symm.trans (Stand.of_body B).code)
      intro x hx
      rw [Array.isEmpty_iff.mp h7] at hx
      cases hx
    obtain ⟨t, a1, o, b1, b2, b3⟩ := body p e s m args below meth c s₁ B hml ht hP s₁ hh0 (Stand.of_body B)
    exact ⟨t, o, a1, b1, b2, b3⟩
/-- what a body that may throw owes at its end -/
def ty_MQ (below : List Frame) (Qc : Array Value → State → Outcome → State → Prop) (XC : String → State → State → Prop) (a : Array Value) (s : State) (mc ms : Nat) (free : Addr → Prop) : State → Prop := fun t =>
  ∃ o, t.status = .running ∧ Ended t below o ∧ ty_Q Qc XC mc ms free a s o t
end TYX
/-! ===== END ===== -/
/-! ===== BEGIN states as values: arrays by the number of their cell, int fields by a number of their own ===== -/
abbrev tyS : Type := (Nat → Nat → Int32) × (Nat → Int32)
def sA (σ : tyS) (a : Nat) (f : Nat → Int32) : tyS := (fun j => if j = a then f else σ.1 j, σ.2)
def sV (σ : tyS) (v : Nat) (x : Int32) : tyS := (σ.1, fun j => if j = v then x else σ.2 j)
def sW (σ : tyS) (a : Nat) (i x : Int32) : tyS := sA σ a (upd (σ.1 a) i.toNatClampNeg x)
def inb (i : Int32) (n : Nat) : Bool := decide (¬ (i < 0 ∨ n ≤ i.toNatClampNeg))
def chk {α : Type} (b : Bool) (x : Option α) : Option α := match b with
  | true => x
  | false => none
def stp {α : Type} (v : tyS) (k : tyS → Option α) : Option α := k v
def bR {α β : Type} (x : Option α) (k : α → Option β) : Option β := match x with
  | none => none
  | some a => k a
def bN {β : Type} (x : Option (Int32 × tyS)) (k : Int32 → tyS → Option β) : Option β := match x with
  | none => none
  | some q => k q.1 q.2
abbrev tyX : Type := Nat × Int32 × tyS
def bX (x : Option tyX) (k : Int32 → tyS → Option tyX) : Option tyX := match x with
  | none => none
  | some (0, r, σ) => k r σ
  | some (c + 1, _, σ) => some (c + 1, 0, σ)
theorem chk_some {α : Type} {i : Int32} {n : Nat} {x : Option α} {y : α} (h : chk (inb i n) x = some y) : vp_in i n ∧ x = some y := by
  unfold chk inb at h
  by_cases q : ¬ (i < 0 ∨ n ≤ i.toNatClampNeg)
  · rw [decide_eq_true q] at h
    exact ⟨q, h⟩
  · rw [decide_eq_false q] at h
    cases h
theorem chkb_some {α : Type} {b : Bool} {x : Option α} {y : α} (h : chk b x = some y) : b = true ∧ x = some y := by
  cases b
  · cases h
  · exact ⟨rfl, h⟩
theorem stp_some {α : Type} {v : tyS} {k : tyS → Option α} {y : α} (h : stp v k = some y) : ∃ σ : tyS, σ = v ∧ k σ = some y := ⟨v, rfl, h⟩
theorem bR_some {α β : Type} {x : Option α} {k : α → Option β} {y : β} (h : bR x k = some y) : ∃ a, x = some a ∧ k a = some y := by
  cases x with
  | none => cases h
  | some a => exact ⟨a, rfl, h⟩
theorem bN_some {β : Type} {x : Option (Int32 × tyS)} {k : Int32 → tyS → Option β} {y : β} (h : bN x k = some y) : ∃ a σ, x = some (a, σ) ∧ k a σ = some y := by
  cases x with
  | none => cases h
  | some a => exact ⟨a.1, a.2, rfl, h⟩
theorem bX_some {x : Option tyX} {k : Int32 → tyS → Option tyX} {y : tyX} (h : bX x k = some y) : (∃ c r σ, x = some (c + 1, r, σ) ∧ y = (c + 1, 0, σ)) ∨ ∃ r σ, x = some (0, r, σ) ∧ k r σ = some y := by
  match x, h with
  | none, h => cases h
  | some (0, r, σ), h => exact Or.inr ⟨r, σ, rfl, h⟩
  | some (c + 1, r, σ), h => exact Or.inl ⟨c, r, σ, rfl, (Option.some.inj h).symm⟩
theorem iteT {α : Type} {c : Prop} {d : Decidable c} {A B : Option α} {x : Option α} (h : @ite _ c d A B = x) (hc : c) : A = x := by rw [if_pos hc] at h; exact h
theorem iteF {α : Type} {c : Prop} {d : Decidable c} {A B : Option α} {x : Option α} (h : @ite _ c d A B = x) (hc : ¬ c) : B = x := by rw [if_neg hc] at h; exact h
/-! ===== contracts over one world that is a function of the state ===== -/
/-- the words of the calls of nest mates -/
def gNn : List Cond := [.methodLinkNest RX4 11 yX2_init RX4, .methodLinkNest RX4 21 yX0_init RX4, .methodLinkNest RX3 62 yX4_slotOf RX4]
def gNN (U : State) : Prop := ∀ w ∈ gNn, va_Nw w U
theorem gNN.warm {s U : State} (hW : s.WarmedH U.vm) (h : gNN s) : gNN U := by
  intro w hw
  have h1 := h w hw
  simp only [gNn, List.mem_cons, List.not_mem_nil, or_false] at hw
  rcases hw with rfl | rfl | rfl <;> exact va_Nw.warmM hW h1
theorem gNN.same {u U : State} (hv : u.vm = U.vm) (h : gNN u) : gNN U := by
  intro w hw
  have h1 := h w hw
  simp only [gNn, List.mem_cons, List.not_mem_nil, or_false] at hw
  rcases hw with rfl | rfl | rfl <;> exact va_Nw.same rfl hv h1
def gPre (D : va_G) (w : tyS → va_W) (tys : List (ClassId × FieldType)) (sz : Nat) (σ : tyS) (U : State) : Prop := U.heap.size = sz ∧ va_P D vwCl (w σ) U.heap ∧ va_K D vwCl tys U ∧ va_D (fun _ => True) (w σ) ∧ gNN U
def gB (D : va_G) (w : tyS → va_W) (tys : List (ClassId × FieldType)) (A : Nat → Prop) (σ : tyS) (t : State) : Prop := va_P D vwCl (w σ) t.heap ∧ va_K D vwCl tys t ∧ va_D A (w σ)
abbrev gQi (D : va_G) (w : tyS → va_W) (tys : List (ClassId × FieldType)) (A : Nat → Prop) (r : Int32) (τ : tyS) : Array Value → State → Outcome → State → Prop := va_Qi (fun (r' : Int32) (u : tyS) => r' = r ∧ u = τ) (gB D w tys A) A
abbrev gQv (D : va_G) (w : tyS → va_W) (tys : List (ClassId × FieldType)) (A : Nat → Prop) (τ : tyS) : Array Value → State → Outcome → State → Prop := va_Qv (fun (u : tyS) => u = τ) (gB D w tys A) A
abbrev gMi (l : Launch) (y : MethodName) (ws : List Cond) (rm : Room) (D : va_G) (w : tyS → va_W) (tys : List (ClassId × FieldType)) (av : List Value) (sz : Nat) (σ : tyS) (r : Int32) (τ : tyS) : Prop :=
  Met l y ws rm (va_Pc av (gPre D w tys sz σ)) (gQi D w tys (va_A (w σ) sz) r τ) 0 0 (va_A (w σ) sz)
abbrev gMv (l : Launch) (y : MethodName) (ws : List Cond) (rm : Room) (D : va_G) (w : tyS → va_W) (tys : List (ClassId × FieldType)) (av : List Value) (sz : Nat) (σ : tyS) (τ : tyS) : Prop :=
  Met l y ws rm (va_Pc av (gPre D w tys sz σ)) (gQv D w tys (va_A (w σ) sz) τ) 0 0 (va_A (w σ) sz)
theorem gPre_blind {D : va_G} {w : tyS → va_W} {tys : List (ClassId × FieldType)} {av : List Value} {sz : Nat} {σ : tyS} : FrameBlind (va_Pc av (gPre D w tys sz σ)) := fun a U g mk h => ⟨h.1, h.2.1, h.2.2.1, va_K.moved (u := U) (U := U.calling g mk a) (Vm.Alike.refl U.vm) h.2.2.2.1, h.2.2.2.2.1, gNN.same (u := U) (U := U.calling g mk a) rfl h.2.2.2.2.2⟩
theorem gFree {A : Nat → Prop} {ws : va_W} {H0 H : Heap} {locs : List Loc} (hD : va_D A ws) (hS : va_S A H0 H locs) (hA : ∀ q, H0.size ≤ q → A q) : ∀ q, va_A ws H.size q → A q := by
  intro q h
  rcases h with ⟨k, e, h⟩ | h
  · exact hD.2 k (q, e) h
  · exact hA q (Nat.le_trans hS.1 h)
/-! ===== what a throw needs besides its world ===== -/
def gE1 : String := "java/lang/IllegalArgumentException"
def gE2 : String := "java/lang/IllegalStateException"
def gE3 : String := "java/lang/IndexOutOfBoundsException"
def exn : Nat → String
  | 0 => ""
  | 1 => "java/lang/IllegalArgumentException"
  | 2 => "java/lang/IllegalStateException"
  | _ => "java/lang/IndexOutOfBoundsException"
def gNms : List String := ["java/lang/RuntimeException", "java/lang/Exception"]
def gNw : List Cond := [.castable (exn 1) (exn 1), .castable (exn 2) (exn 2), .castable (exn 3) (exn 3), .declares (Bundle.initS "java/lang/RuntimeException"), .declares (Bundle.initS "java/lang/Exception"), .declares (Bundle.initS Bundle.tN)]
theorem gNw_warm {s U : State} (hW : s.WarmedH U.vm) (h : ∀ w ∈ gNw, va_Nw w s) : ∀ w ∈ gNw, va_Nw w U := by
  intro w hw
  have h1 := h w hw
  simp only [gNw, List.mem_cons, List.not_mem_nil, or_false] at hw
  rcases hw with rfl | rfl | rfl | rfl | rfl | rfl
  · exact va_Nw.warmC hW h1
  · exact va_Nw.warmC hW h1
  · exact va_Nw.warmC hW h1
  · exact va_Nw.warmD hW h1
  · exact va_Nw.warmD hW h1
  · exact va_Nw.warmD hW h1
/-- the two statics that a Throwable's constructor reads, the words that the tables alone decide, the texts -/
def gOK (gStr : List (String × Nat × String)) (A : Nat → Prop) (U : State) (H : Heap) : Prop :=
  vx_Zq Bundle.tN "UNASSIGNED_STACK" Bundle.steD A U H ∧ vx_Zq Bundle.tN "SUPPRESSED_SENTINEL" Bundle.listD A U H ∧ (∀ w ∈ gNw, va_Nw w U) ∧ ∀ q ∈ gStr, ∃ sa : Nat, vk_R q.1 q.2.1 q.2.2 sa U
theorem gOK.go {gStr : List (String × Nat × String)} {A B : Nat → Prop} {s U : State} {H : Heap} {locs : List Loc} (h : gOK gStr A s s.heap) (hS : va_S A s.heap H locs) (hU : U.heap = H) (hW : s.WarmedH U.vm) (hAB : ∀ q, B q → A q) : gOK gStr B U U.heap := by
  obtain ⟨h1, h2, h3, h4⟩ := h
  rw [hU]
  exact ⟨vx_Zq.moved hW.alike ((h1.kept hS.2.1).narrow hAB), vx_Zq.moved hW.alike ((h2.kept hS.2.1).narrow hAB), gNw_warm hW h3, fun q hq => by obtain ⟨sa, h⟩ := h4 q hq; exact ⟨sa, vk_R.warm hW h⟩⟩
def gPreX (gStr : List (String × Nat × String)) (D : va_G) (w : tyS → va_W) (tys : List (ClassId × FieldType)) (sz : Nat) (σ : tyS) (U : State) : Prop := gPre D w tys sz σ U ∧ gOK gStr (va_A (w σ) sz) U U.heap
abbrev gXC (D : va_G) (w : tyS → va_W) (tys : List (ClassId × FieldType)) (A : Nat → Prop) (res : tyX) : String → State → State → Prop := vx_X (fun _ : tyS => True) (fun E (u : tyS) t => (∃ k, res = (k + 1, 0, u) ∧ E = exn (k + 1)) ∧ gB D w tys A u t) A
abbrev gQXi (D : va_G) (w : tyS → va_W) (tys : List (ClassId × FieldType)) (A : Nat → Prop) (res : tyX) : Array Value → State → Outcome → State → Prop := va_Qi (fun (r' : Int32) (u : tyS) => res = (0, r', u)) (gB D w tys A) A
abbrev gQXv (D : va_G) (w : tyS → va_W) (tys : List (ClassId × FieldType)) (A : Nat → Prop) (res : tyX) : Array Value → State → Outcome → State → Prop := va_Qv (fun (u : tyS) => res = (0, 0, u)) (gB D w tys A) A
abbrev gXi (gStr : List (String × Nat × String)) (l : Launch) (y : MethodName) (ws : List Cond) (rm : Room) (D : va_G) (w : tyS → va_W) (tys : List (ClassId × FieldType)) (av : List Value) (sz : Nat) (σ : tyS) (res : tyX) : Prop :=
  ty_Met l y ws rm (va_Pc av (gPreX gStr D w tys sz σ)) (gQXi D w tys (va_A (w σ) sz) res) (gXC D w tys (va_A (w σ) sz) res) 1 6 (va_A (w σ) sz)
abbrev gXv (gStr : List (String × Nat × String)) (l : Launch) (y : MethodName) (ws : List Cond) (rm : Room) (D : va_G) (w : tyS → va_W) (tys : List (ClassId × FieldType)) (av : List Value) (sz : Nat) (σ : tyS) (res : tyX) : Prop :=
  ty_Met l y ws rm (va_Pc av (gPreX gStr D w tys sz σ)) (gQXv D w tys (va_A (w σ) sz) res) (gXC D w tys (va_A (w σ) sz) res) 1 6 (va_A (w σ) sz)
theorem gPreX_blind {gStr : List (String × Nat × String)} {D : va_G} {w : tyS → va_W} {tys : List (ClassId × FieldType)} {av : List Value} {sz : Nat} {σ : tyS} : FrameBlind (va_Pc av (gPreX gStr D w tys sz σ)) := by
  intro a U g mk h
  refine ⟨h.1, (gPre_blind a U g mk ⟨h.1, h.2.1⟩).2, ?_⟩
  obtain ⟨h1, h2, h3, h4⟩ := h.2.2
  exact ⟨vx_Zq.moved (u := U) (Vm.Alike.refl U.vm) h1, vx_Zq.moved (u := U) (Vm.Alike.refl U.vm) h2, fun w hw => va_Nw.same (by simp only [gNw, List.mem_cons, List.not_mem_nil, or_false] at hw; rcases hw with rfl | rfl | rfl | rfl | rfl | rfl <;> rfl) (u := U) rfl (h3 w hw), fun q hq => by obtain ⟨sa, h⟩ := h4 q hq; exact ⟨sa, vk_R.same (u := U) rfl h⟩⟩
section GC
variable {p : Program} {l : Launch} {e : Env} {R : Room} {s : State} {m : MethodId} {args : Array Value} {below : List Frame} {meth : Method} {c : Code} {H : Heap} {locs : List Loc} {Q Q2 : State → Prop}
variable {y : MethodName} {bytes cc : ByteArray} {maxL nL n index : Nat} {ret : Option FieldType} {ws : List Cond} {rm : Room} {Ts : List Cond} {own C : String} {b : Addr} {As rest st0 : List Value} {pc : Nat} {ls : Array Slot} {D : va_G} {w : tyS → va_W} {tys : List (ClassId × FieldType)} {A : Nat → Prop} {σ τ : tyS} {r : Int32} {res : tyX} {gStr : List (String × Nat × String)}
theorem W.mono2 {cells slots : Nat} {g : JFrame} (k : W p l e R s m args below meth c H locs cells slots Q g) (h : ∀ t, Q t → Q2 t) : W p l e R s m args below meth c H locs cells slots Q2 g := fun T hT X => by
  obtain ⟨t, a, b⟩ := k T hT X
  exact ⟨t, a, h t b⟩
theorem lv_as {cells slots : Nat} {x y : Int32} (h : x = y) (k : W p l e R s m args below meth c H locs cells slots Q (F0 m pc ls (.int y :: rest))) : W p l e R s m args below meth c H locs cells slots Q (F0 m pc ls (.int x :: rest)) := by rw [h]; exact k
/-! calls of methods that don't throw -/
theorem gc_Vi (S : CallFix p m c cc nL s args Ts own) (hM : gMi l y ws rm D w tys (.ref b :: As) H.size σ r τ) (cw : CallW R s args own C index y bytes maxL ret ws rm 0 0 n)
    (hK : va_K D vwCl tys s) (hP : va_P D vwCl (w σ) H) (hD : va_D A (w σ)) (hS : va_S A s.heap H locs) (hA : ∀ q, s.heap.size ≤ q → A q) (hNN : gNN s) {ci q0 : Nat} {T : u_T} {N : Nat} {fs : List Value} (hc : vwCl[ci]? = some (C, T, N)) (he : (w σ)[q0]? = some (b, .inr (ci, fs)))
    (hn : As.length = n) (hsize : ls.size = nL) (hst : st0 = As.reverse ++ .ref b :: rest) (hW : (rest.map fun v => v.category).sum ≤ 8) (hdg : decode cc pc = .ok (.invokevirtual index, 3))
    (kk : ∀ (H1 : Heap) (locs1 : List Loc), va_P D vwCl (w τ) H1 → va_D A (w τ) → va_S A s.heap H1 locs1 → W p l e R s m args below meth c H1 locs1 0 0 Q (F0 m (pc + 3) ls (.int r :: rest))) : W p l e R s m args below meth c H locs 0 0 Q (F0 m pc ls st0) := by
  subst hst
  have hF := gFree hD hS hA
  refine va_calli (va_runV (As := As) (rest := rest) S hM cw ⟨gPre_blind, va_recv hK hP hc he, fun U hU hWm => ⟨rfl, by rw [hU], by rw [hU]; exact hP, va_K.moved hWm.alike hK, hD.weaken (fun _ _ _ _ => trivial), hNN.warm hWm⟩⟩ rfl hn hsize rfl (lv_room hW) hdg ⟨Nat.zero_le _, Nat.zero_le _⟩) hS (fun q _ h => hF q h) hF (fun r1 u t H1 locs1 ht hvm hw hB hz1 hk1 hS1 => ?_)
  obtain ⟨rfl, rfl⟩ := hw
  obtain ⟨hP1, hK1, hD1⟩ := hB
  rw [ht] at hP1
  exact kk H1 locs1 hP1 (hD1.weaken (fun _ _ _ h => hF _ h)) hS1
theorem gc_Vv (S : CallFix p m c cc nL s args Ts own) (hM : gMv l y ws rm D w tys (.ref b :: As) H.size σ τ) (cw : CallW R s args own C index y bytes maxL ret ws rm 0 0 n)
    (hK : va_K D vwCl tys s) (hP : va_P D vwCl (w σ) H) (hD : va_D A (w σ)) (hS : va_S A s.heap H locs) (hA : ∀ q, s.heap.size ≤ q → A q) (hNN : gNN s) {ci q0 : Nat} {T : u_T} {N : Nat} {fs : List Value} (hc : vwCl[ci]? = some (C, T, N)) (he : (w σ)[q0]? = some (b, .inr (ci, fs)))
    (hn : As.length = n) (hsize : ls.size = nL) (hst : st0 = As.reverse ++ .ref b :: rest) (hW : (rest.map fun v => v.category).sum ≤ 8) (hdg : decode cc pc = .ok (.invokevirtual index, 3))
    (kk : ∀ (H1 : Heap) (locs1 : List Loc), va_P D vwCl (w τ) H1 → va_D A (w τ) → va_S A s.heap H1 locs1 → W p l e R s m args below meth c H1 locs1 0 0 Q (F0 m (pc + 3) ls rest)) : W p l e R s m args below meth c H locs 0 0 Q (F0 m pc ls st0) := by
  subst hst
  have hF := gFree hD hS hA
  refine va_callv (va_runV (As := As) (rest := rest) S hM cw ⟨gPre_blind, va_recv hK hP hc he, fun U hU hWm => ⟨rfl, by rw [hU], by rw [hU]; exact hP, va_K.moved hWm.alike hK, hD.weaken (fun _ _ _ _ => trivial), hNN.warm hWm⟩⟩ rfl hn hsize rfl (lv_room hW) hdg ⟨Nat.zero_le _, Nat.zero_le _⟩) hS (fun q _ h => hF q h) hF (fun u t H1 locs1 ht hvm hw hB hz1 hk1 hS1 => ?_)
  subst hw
  obtain ⟨hP1, hK1, hD1⟩ := hB
  rw [ht] at hP1
  exact kk H1 locs1 hP1 (hD1.weaken (fun _ _ _ h => hF _ h)) hS1
theorem gc_Si (S : CallFix p m c cc nL s args Ts own) (hM : gMi l y ws rm D w tys As H.size σ r τ) (cw : CallB R s args own index y bytes maxL ret ws rm 0 0 n ∧ (Cond.static y).before args s = true)
    (hK : va_K D vwCl tys s) (hP : va_P D vwCl (w σ) H) (hD : va_D A (w σ)) (hS : va_S A s.heap H locs) (hA : ∀ q, s.heap.size ≤ q → A q) (hNN : gNN s)
    (hn : As.length = n) (hsize : ls.size = nL) (hst : st0 = As.reverse ++ rest) (hW : (rest.map fun v => v.category).sum ≤ 8) (hdg : decode cc pc = .ok (.invokestatic index, 3))
    (kk : ∀ (H1 : Heap) (locs1 : List Loc), va_P D vwCl (w τ) H1 → va_D A (w τ) → va_S A s.heap H1 locs1 → W p l e R s m args below meth c H1 locs1 0 0 Q (F0 m (pc + 3) ls (.int r :: rest))) : W p l e R s m args below meth c H locs 0 0 Q (F0 m pc ls st0) := by
  subst hst
  have hF := gFree hD hS hA
  refine va_calli (va_runS (As := As) (rest := rest) S hM cw ⟨gPre_blind, fun U hU hWm => ⟨rfl, by rw [hU], by rw [hU]; exact hP, va_K.moved hWm.alike hK, hD.weaken (fun _ _ _ _ => trivial), hNN.warm hWm⟩⟩ rfl hn hsize rfl (lv_room hW) hdg ⟨Nat.zero_le _, Nat.zero_le _⟩) hS (fun q _ h => hF q h) hF (fun r1 u t H1 locs1 ht hvm hw hB hz1 hk1 hS1 => ?_)
  obtain ⟨rfl, rfl⟩ := hw
  obtain ⟨hP1, hK1, hD1⟩ := hB
  rw [ht] at hP1
  exact kk H1 locs1 hP1 (hD1.weaken (fun _ _ _ h => hF _ h)) hS1
theorem gc_SNi {host : String} (S : CallFix p m c cc nL s args Ts own) (hM : gMi l y ws rm D w tys As H.size σ r τ) (cw : va_CN R s args own index y host bytes maxL ret ws rm 0 0 n ∧ (Cond.static y).before args s = true ∧ True)
    (hK : va_K D vwCl tys s) (hP : va_P D vwCl (w σ) H) (hD : va_D A (w σ)) (hS : va_S A s.heap H locs) (hA : ∀ q, s.heap.size ≤ q → A q) (hNN : gNN s)
    (hn : As.length = n) (hsize : ls.size = nL) (hst : st0 = As.reverse ++ rest) (hW : (rest.map fun v => v.category).sum ≤ 8) (hdg : decode cc pc = .ok (.invokestatic index, 3))
    (kk : ∀ (H1 : Heap) (locs1 : List Loc), va_P D vwCl (w τ) H1 → va_D A (w τ) → va_S A s.heap H1 locs1 → W p l e R s m args below meth c H1 locs1 0 0 Q (F0 m (pc + 3) ls (.int r :: rest))) : W p l e R s m args below meth c H locs 0 0 Q (F0 m pc ls st0) := by
  subst hst
  have hF := gFree hD hS hA
  refine va_calli (va_runSN (As := As) (rest := rest) S hM cw ⟨gPre_blind, fun U hU hWm => ⟨rfl, by rw [hU], by rw [hU]; exact hP, va_K.moved hWm.alike hK, hD.weaken (fun _ _ _ _ => trivial), hNN.warm hWm⟩⟩ rfl hn hsize rfl (lv_room hW) hdg ⟨Nat.zero_le _, Nat.zero_le _⟩) hS (fun q _ h => hF q h) hF (fun r1 u t H1 locs1 ht hvm hw hB hz1 hk1 hS1 => ?_)
  obtain ⟨rfl, rfl⟩ := hw
  obtain ⟨hP1, hK1, hD1⟩ := hB
  rw [ht] at hP1
  exact kk H1 locs1 hP1 (hD1.weaken (fun _ _ _ h => hF _ h)) hS1
/-! the ends -/
theorem ty_ret {Qc : Array Value → State → Outcome → State → Prop} {XC : String → State → State → Prop} {mc ms : Nat} {free : Addr → Prop} {g : JFrame} (k : W p l e R s m args below meth c H locs 0 0 (MQ below Qc args s 0 0 free) g) : W p l e R s m args below meth c H locs 0 0 (ty_MQ below Qc XC args s mc ms free) g := by
  intro T hT X
  obtain ⟨t, a1, o, b1, b2, b3, b4⟩ := k T hT X
  exact ⟨t, a1, o, b1, b2, Or.inl ⟨b3, b4⟩⟩
theorem ty_thrown {Qc : Array Value → State → Outcome → State → Prop} {XC : String → State → State → Prop} {mc ms cells slots : Nat} {free : Addr → Prop} {g : JFrame} (k : W p l e R s m args below meth c H locs cells slots (vx_MQ below (fun _ _ _ _ => False) XC args s mc ms free) g) : W p l e R s m args below meth c H locs cells slots (ty_MQ below Qc XC args s mc ms free) g := by
  intro T hT X
  obtain ⟨t, a1, o, b1, b2, b3⟩ := k T hT X
  rcases b3 with ⟨b3, -⟩ | b3
  · exact absurd b3 (fun h => h)
  · exact ⟨t, a1, o, b1, b2, Or.inr b3⟩
theorem ty_thrownX {Qc : Array Value → State → Outcome → State → Prop} {XC : String → State → State → Prop} {mc ms cells slots : Nat} {free : Addr → Prop} {g : JFrame} {q : Addr} (k : vx_W p l e R s m args below meth c H locs cells slots (vx_MQ below (fun _ _ _ _ => False) XC args s mc ms free) g q) : vx_W p l e R s m args below meth c H locs cells slots (ty_MQ below Qc XC args s mc ms free) g q := by
  intro T hT X
  obtain ⟨t, a1, o, b1, b2, b3⟩ := k T hT X
  rcases b3 with ⟨b3, -⟩ | b3
  · exact absurd b3 (fun h => h)
  · exact ⟨t, a1, o, b1, b2, Or.inr b3⟩
theorem g_iret {v : Int32} {ty : FieldType} (hx : p.tables.exec = Jvm.exec) (hb : c.code = cc) (hr : meth.sig.returnType = some ty) (hn : narrow ty (.int v) = .int v) (hlocks : meth.locks = false) (hP : va_P D vwCl (w σ) H) (hK : va_K D vwCl tys s) (hD : va_D A (w σ)) (hS : va_S A s.heap H locs) (hdg : decode cc pc = .ok (.ireturn, 1)) (h1 : v = r) (h2 : σ = τ) :
    W p l e R s m args below meth c H locs 0 0 (MQ below (gQi D w tys A r τ) args s 0 0 A) (F0 m pc ls [.int v]) := by
  subst h1; subst h2
  exact W.zret (v := v) hx hb hr hn (fun t ht hW => ⟨⟨v, σ, rfl, ⟨rfl, rfl⟩, by rw [ht]; exact hP, va_K.moved hW.alike hK, hD⟩, hS.F ht⟩) hS.2.2 hdg hlocks
theorem g_iretR {v : Int32} {ty : FieldType} (hx : p.tables.exec = Jvm.exec) (hb : c.code = cc) (hr : meth.sig.returnType = some ty) (hn : narrow ty (.int v) = .int v) (hlocks : meth.locks = false) (hP : va_P D vwCl (w σ) H) (hK : va_K D vwCl tys s) (hD : va_D A (w σ)) (hS : va_S A s.heap H locs) (hdg : decode cc pc = .ok (.ireturn, 1)) (hF : some v = some r) :
    W p l e R s m args below meth c H locs 0 0 (MQ below (gQi D w tys A r σ) args s 0 0 A) (F0 m pc ls [.int v]) := g_iret hx hb hr hn hlocks hP hK hD hS hdg (Option.some.inj hF) rfl
theorem g_iretN {v : Int32} {ty : FieldType} (hx : p.tables.exec = Jvm.exec) (hb : c.code = cc) (hr : meth.sig.returnType = some ty) (hn : narrow ty (.int v) = .int v) (hlocks : meth.locks = false) (hP : va_P D vwCl (w σ) H) (hK : va_K D vwCl tys s) (hD : va_D A (w σ)) (hS : va_S A s.heap H locs) (hdg : decode cc pc = .ok (.ireturn, 1)) (hF : some (v, σ) = some (r, τ)) :
    W p l e R s m args below meth c H locs 0 0 (MQ below (gQi D w tys A r τ) args s 0 0 A) (F0 m pc ls [.int v]) := g_iret hx hb hr hn hlocks hP hK hD hS hdg (congrArg Prod.fst (Option.some.inj hF)) (congrArg Prod.snd (Option.some.inj hF))
theorem g_vretN (hx : p.tables.exec = Jvm.exec) (hb : c.code = cc) (hr : meth.sig.returnType = none) (hlocks : meth.locks = false) (hP : va_P D vwCl (w σ) H) (hK : va_K D vwCl tys s) (hD : va_D A (w σ)) (hS : va_S A s.heap H locs) (hdg : decode cc pc = .ok (.return_, 1)) (hF : some σ = some τ) :
    W p l e R s m args below meth c H locs 0 0 (MQ below (gQv D w tys A τ) args s 0 0 A) (F0 m pc ls []) := by
  have h := Option.some.inj hF
  subst h
  exact W.vret hx hb hr (fun t ht hW => ⟨⟨σ, rfl, rfl, by rw [ht]; exact hP, va_K.moved hW.alike hK, hD⟩, hS.F ht⟩) hS.2.2 hdg hlocks
theorem g_iretX {v : Int32} {ty : FieldType} {mc ms : Nat} (hx : p.tables.exec = Jvm.exec) (hb : c.code = cc) (hr : meth.sig.returnType = some ty) (hn : narrow ty (.int v) = .int v) (hlocks : meth.locks = false) (hP : va_P D vwCl (w σ) H) (hK : va_K D vwCl tys s) (hD : va_D A (w σ)) (hS : va_S A s.heap H locs) (hdg : decode cc pc = .ok (.ireturn, 1)) {XC : String → State → State → Prop} (hF : some ((0, v, σ) : tyX) = some res) :
    W p l e R s m args below meth c H locs 0 0 (ty_MQ below (gQXi D w tys A res) XC args s mc ms A) (F0 m pc ls [.int v]) := by
  have h := Option.some.inj hF
  subst h
  exact ty_ret (W.zret (v := v) hx hb hr hn (fun t ht hW => ⟨⟨v, σ, rfl, rfl, by rw [ht]; exact hP, va_K.moved hW.alike hK, hD⟩, hS.F ht⟩) hS.2.2 hdg hlocks)
theorem g_vretX {mc ms : Nat} (hx : p.tables.exec = Jvm.exec) (hb : c.code = cc) (hr : meth.sig.returnType = none) (hlocks : meth.locks = false) (hP : va_P D vwCl (w σ) H) (hK : va_K D vwCl tys s) (hD : va_D A (w σ)) (hS : va_S A s.heap H locs) (hdg : decode cc pc = .ok (.return_, 1)) {XC : String → State → State → Prop} (hF : some ((0, 0, σ) : tyX) = some res) :
    W p l e R s m args below meth c H locs 0 0 (ty_MQ below (gQXv D w tys A res) XC args s mc ms A) (F0 m pc ls []) := by
  have h := Option.some.inj hF
  subst h
  exact ty_ret (W.vret hx hb hr (fun t ht hW => ⟨⟨σ, rfl, rfl, by rw [ht]; exact hP, va_K.moved hW.alike hK, hD⟩, hS.F ht⟩) hS.2.2 hdg hlocks)
/-! calls of methods that may throw -/
theorem gx_out {E : String} {ce : Cell} {q : Addr} {Qc : Array Value → State → Outcome → State → Prop} (ht : ∀ x ∈ c.exceptionTable.toList, False) (hlocks : meth.locks = false) (hcell : H[q]? = some ce) (hv : ce.vm = .none) (hcl : s.vm.findClass E = some ce.cls)
    (hP : va_P D vwCl (w σ) H) (hK : va_K D vwCl tys s) (hD : va_D A (w σ)) (hS : va_S A s.heap H locs) (hres : ∃ k, res = (k + 1, 0, σ) ∧ E = exn (k + 1)) :
    vx_W p l e R s m args below meth c H locs (0 + 1) (0 + 6) (ty_MQ below Qc (gXC D w tys A res) args s 1 6 A) (F0 m pc ls rest) q :=
  ty_thrownX (vx_out (fun x hx => absurd (ht x hx) (fun h => h)) hlocks hcell hv hcl (fun t hT hW => ⟨σ, trivial, ⟨hres, by rw [hT]; exact hP, va_K.moved hW hK, hD⟩, hS.F hT⟩) hS.2.2 (Nat.le_refl _) (Nat.le_refl _))
theorem gx_keep {B : Nat → Prop} {st₀ t T' : State} {L : List Loc} (h0 : st₀.heap = H) (e1 : T'.heap = t.heap) (hS : va_S A s.heap H locs) (hF : ∀ q, B q → A q) (hL : ∀ q ∈ L, B q.base) (h : va_F B st₀ t) : va_S A s.heap T'.heap (locs ++ L) := (vx_keep h0 e1 hS (fun q _ hq => hF q hq) hF hL h).2.2
/-- a run that has thrown goes on to the caller -/
theorem gx_T {g9 : State → Outcome → State → Prop} {res9 : tyX} {k9 : Nat} {r9 : Int32} {Qc : Array Value → State → Outcome → State → Prop}
    (hrun : ty_Run p l e R s m args below meth c H locs 0 0 1 6 (F0 m pc ls st0) rest g9 (gXC D w tys (va_A (w σ) H.size) res9) (va_A (w σ) H.size)) (hno : ∀ st v t, ¬ g9 st (.returned v) t) (hres9 : res9 = (k9 + 1, r9, τ)) (hres : res = (k9 + 1, 0, τ))
    (ht : ∀ x ∈ c.exceptionTable.toList, False) (hlocks : meth.locks = false) (hK : va_K D vwCl tys s) (hD : va_D A (w σ)) (hS : va_S A s.heap H locs) (hA : ∀ q, s.heap.size ≤ q → A q) :
    W p l e R s m args below meth c H locs 0 0 (ty_MQ below Qc (gXC D w tys A res) args s 1 6 A) (F0 m pc ls st0) := by
  have hF := gFree hD hS hA
  intro T hT X
  rcases hrun T hT X with ⟨v, st₀, t, T', L, h0, X', hL, e1, e2, hq, st⟩ | ⟨q, st₀, t, T', L, E, ce, h0, X', hL, e1, e2, ⟨u, -, ⟨⟨k, hk, hE⟩, hP1, hK1, hD1⟩, hFF⟩, hce, hcv, hcl, st⟩
  · exact absurd hq (hno _ _ _)
  · rw [hres9] at hk
    cases hk
    have hW1 := gx_out (p := p) (l := l) (e := e) (R := R) (m := m) (args := args) (below := below) (pc := pc) (ls := ls) (rest := rest) (Qc := Qc) (H := T'.heap) (locs := locs ++ L) (D := D) (w := w) (tys := tys) (A := A) (σ := τ) (res := res) (E := E) (ce := ce) (q := q) ht hlocks (by rw [e1]; exact hce) hcv hcl (by rw [e1]; exact hP1) hK (hD1.weaken (fun _ _ _ h => hF _ h)) (gx_keep h0 e1 hS hF hL hFF) ⟨k9, hres, hE⟩
    obtain ⟨t2, a1, b1⟩ := hW1 T' rfl X'
    exact ⟨t2, st.trans a1, b1⟩
/-- a run that has returned goes on -/
theorem gx_Ri {rest2 : List Value} {res9 : tyX} (hrun : ty_Run p l e R s m args below meth c H locs 0 0 1 6 (F0 m pc ls st0) rest (gQXi D w tys (va_A (w σ) H.size) res9 rest2.toArray) (gXC D w tys (va_A (w σ) H.size) res9) (va_A (w σ) H.size)) (hres9 : res9 = (0, r, τ))
    (hK : va_K D vwCl tys s) (hD : va_D A (w σ)) (hS : va_S A s.heap H locs) (hA : ∀ q, s.heap.size ≤ q → A q)
    (kk : ∀ (H1 : Heap) (locs1 : List Loc), va_P D vwCl (w τ) H1 → va_D A (w τ) → va_S A s.heap H1 locs1 → W p l e R s m args below meth c H1 locs1 0 0 Q (F0 m (pc + 3) ls (.int r :: rest))) : W p l e R s m args below meth c H locs 0 0 Q (F0 m pc ls st0) := by
  have hF := gFree hD hS hA
  intro T hT X
  rcases hrun T hT X with ⟨v, st₀, t, T', L, h0, X', hL, e1, e2, ⟨⟨r1, u, hv, hp, hP1, hK1, hD1⟩, hFF⟩, st⟩ | ⟨q, st₀, t, T', L, E, ce, h0, X', hL, e1, e2, ⟨u, -, ⟨⟨k, hk, hE⟩, hP1, hK1, hD1⟩, hFF⟩, hce, hcv, hcl, st⟩
  · rw [hres9] at hp
    cases hp
    cases hv
    obtain ⟨t2, a1, b1⟩ := kk T'.heap (locs ++ L) (by rw [e1]; exact hP1) (hD1.weaken (fun _ _ _ h => hF _ h)) (gx_keep h0 e1 hS hF hL hFF) T' rfl X'
    exact ⟨t2, st t2 a1, b1⟩
  · rw [hres9] at hk
    cases hk
theorem gx_Rv {rest2 : List Value} {res9 : tyX} (hrun : ty_Run p l e R s m args below meth c H locs 0 0 1 6 (F0 m pc ls st0) rest (gQXv D w tys (va_A (w σ) H.size) res9 rest2.toArray) (gXC D w tys (va_A (w σ) H.size) res9) (va_A (w σ) H.size)) (hres9 : res9 = (0, r, τ))
    (hK : va_K D vwCl tys s) (hD : va_D A (w σ)) (hS : va_S A s.heap H locs) (hA : ∀ q, s.heap.size ≤ q → A q)
    (kk : ∀ (H1 : Heap) (locs1 : List Loc), va_P D vwCl (w τ) H1 → va_D A (w τ) → va_S A s.heap H1 locs1 → W p l e R s m args below meth c H1 locs1 0 0 Q (F0 m (pc + 3) ls rest)) : W p l e R s m args below meth c H locs 0 0 Q (F0 m pc ls st0) := by
  have hF := gFree hD hS hA
  intro T hT X
  rcases hrun T hT X with ⟨v, st₀, t, T', L, h0, X', hL, e1, e2, ⟨⟨u, hv, hp, hP1, hK1, hD1⟩, hFF⟩, st⟩ | ⟨q, st₀, t, T', L, E, ce, h0, X', hL, e1, e2, ⟨u, -, ⟨⟨k, hk, hE⟩, hP1, hK1, hD1⟩, hFF⟩, hce, hcv, hcl, st⟩
  · rw [hres9] at hp
    cases hp
    cases hv
    obtain ⟨t2, a1, b1⟩ := kk T'.heap (locs ++ L) (by rw [e1]; exact hP1) (hD1.weaken (fun _ _ _ h => hF _ h)) (gx_keep h0 e1 hS hF hL hFF) T' rfl X'
    exact ⟨t2, st t2 a1, b1⟩
  · rw [hres9] at hk
    cases hk
/-- the run of a call, virtual or static, of a method that may throw -/
theorem gx_runV {Qc : Array Value → State → Outcome → State → Prop} {XC : String → State → State → Prop} (S : CallFix p m c cc nL s args Ts own) (hM : ty_Met l y ws rm (va_Pc (.ref b :: As) (gPreX gStr D w tys H.size σ)) Qc XC 1 6 (va_A (w σ) H.size)) (cw : CallW R s args own C index y bytes maxL ret ws rm 1 6 n) (hOK : gOK gStr A s s.heap)
    (hK : va_K D vwCl tys s) (hP : va_P D vwCl (w σ) H) (hD : va_D A (w σ)) (hS : va_S A s.heap H locs) (hA : ∀ q, s.heap.size ≤ q → A q) (hNN : gNN s) {ci q0 : Nat} {T : u_T} {N : Nat} {fs : List Value} (hc : vwCl[ci]? = some (C, T, N)) (he : (w σ)[q0]? = some (b, .inr (ci, fs)))
    (hn : As.length = n) (hsize : ls.size = nL) (hst : st0 = As.reverse ++ .ref b :: rest) (hW : (rest.map fun v => v.category).sum ≤ 8) (hdg : decode cc pc = .ok (.invokevirtual index, 3)) (hf : 0 + 1 ≤ R.cells ∧ 0 + 6 ≤ R.slots) :
    ty_Run p l e R s m args below meth c H locs 0 0 1 6 (F0 m pc ls st0) rest (Qc (Value.ref b :: As).toArray) XC (va_A (w σ) H.size) := by
  subst hst
  have hF := gFree hD hS hA
  exact ty_runV (As := As) (rest := rest) S hM cw ⟨gPreX_blind, va_recv hK hP hc he, fun U hU hWm => ⟨rfl, ⟨by rw [hU], by rw [hU]; exact hP, va_K.moved hWm.alike hK, hD.weaken (fun _ _ _ _ => trivial), hNN.warm hWm⟩, hOK.go hS hU hWm hF⟩⟩ rfl hn hsize rfl (lv_room hW) hdg hf
theorem gx_runS {Qc : Array Value → State → Outcome → State → Prop} {XC : String → State → State → Prop} (S : CallFix p m c cc nL s args Ts own) (hM : ty_Met l y ws rm (va_Pc As (gPreX gStr D w tys H.size σ)) Qc XC 1 6 (va_A (w σ) H.size)) (cw : CallB R s args own index y bytes maxL ret ws rm 1 6 n ∧ (Cond.static y).before args s = true) (hOK : gOK gStr A s s.heap)
    (hK : va_K D vwCl tys s) (hP : va_P D vwCl (w σ) H) (hD : va_D A (w σ)) (hS : va_S A s.heap H locs) (hA : ∀ q, s.heap.size ≤ q → A q) (hNN : gNN s)
    (hn : As.length = n) (hsize : ls.size = nL) (hst : st0 = As.reverse ++ rest) (hW : (rest.map fun v => v.category).sum ≤ 8) (hdg : decode cc pc = .ok (.invokestatic index, 3)) (hf : 0 + 1 ≤ R.cells ∧ 0 + 6 ≤ R.slots) :
    ty_Run p l e R s m args below meth c H locs 0 0 1 6 (F0 m pc ls st0) rest (Qc As.toArray) XC (va_A (w σ) H.size) := by
  subst hst
  have hF := gFree hD hS hA
  exact ty_runS (As := As) (rest := rest) S hM cw ⟨gPreX_blind, fun U hU hWm => ⟨rfl, ⟨by rw [hU], by rw [hU]; exact hP, va_K.moved hWm.alike hK, hD.weaken (fun _ _ _ _ => trivial), hNN.warm hWm⟩, hOK.go hS hU hWm hF⟩⟩ rfl hn hsize rfl (lv_room hW) hdg hf
theorem gx_noi {B : Nat → Prop} {res9 : tyX} {k9 : Nat} {r9 : Int32} {a : Array Value} (h : res9 = (k9 + 1, r9, τ)) : ∀ st v t, ¬ gQXi D w tys B res9 a st (.returned v) t := by
  rintro st v t ⟨⟨r1, u, hv, hp, -⟩, -⟩
  rw [h] at hp
  cases hp
theorem gx_nov {B : Nat → Prop} {res9 : tyX} {k9 : Nat} {r9 : Int32} {a : Array Value} (h : res9 = (k9 + 1, r9, τ)) : ∀ st v t, ¬ gQXv D w tys B res9 a st (.returned v) t := by
  rintro st v t ⟨⟨u, hv, hp, -⟩, -⟩
  rw [h] at hp
  cases hp
/-- 'throw new E("text")', not caught here -/
theorem gx_throwS {own cls text : String} {ik is ic k : Nat} {Qc : Array Value → State → Outcome → State → Prop} (hx : p.tables.exec = Jvm.exec) (hb : c.code = cc) (hl : l.stackTraces = false) (hown : s.vm.findClass own = some m.cls) (hcls : cls = exn (k + 1)) (hfit : Bundle.fit cls = true)
    (hk : (Cond.classLink own ik cls).before args s = true) (hini : (Cond.initialized cls).before args s = true) (hat : ∀ w ∈ (vx_atS own ic cls gNms).filter goodWord, w.before args s = true) (hno : ∀ w ∈ (vx_atS own ic cls gNms).filter (fun w => !goodWord w), w ∈ gNw)
    (hgood : ∀ w ∈ Cond.classLink own ik cls :: Cond.initialized cls :: vx_atS own ic cls gNms, vx_ot w = true) (hOK : gOK gStr A s s.heap) (hstr : (own, is, text) ∈ gStr) (hsize : ls.size = c.maxLocals) (ht : ∀ x ∈ c.exceptionTable.toList, False) (hlocks : meth.locks = false)
    (hP : va_P D vwCl (w σ) H) (hK : va_K D vwCl tys s) (hD : va_D A (w σ)) (hS : va_S A s.heap H locs)
    (d0 : decode cc pc = .ok (.new ik, 3)) (d3 : decode cc (pc + 3) = .ok (.dup, 1)) (d4 : decode cc (pc + 4) = .ok (.ldc is, 2)) (d6 : decode cc (pc + 6) = .ok (.invokespecial ic, 3)) (d9 : decode cc (pc + 9) = .ok (.athrow, 1))
    (hR : 5 < R.frames ∧ 82 ≤ R.locals ∧ 1 ≤ R.cells ∧ 6 ≤ R.slots) (hF : some ((k + 1, 0, σ) : tyX) = some res) :
    W p l e R s m args below meth c H locs 0 0 (ty_MQ below Qc (gXC D w tys A res) args s 1 6 A) (F0 m pc ls []) := by
  have h := Option.some.inj hF
  subst h
  obtain ⟨sa, hsa⟩ := hOK.2.2.2 _ hstr
  refine ty_thrown (vx_throwS (names := gNms) hx hb hl hown hfit (by decide +kernel) hk hini hsa (vx_hat hat hno (fun w hw => va_Nw.use (by simp only [gNw, List.mem_cons, List.not_mem_nil, or_false] at hw; rcases hw with rfl | rfl | rfl | rfl | rfl | rfl <;> rfl) (hOK.2.2.1 w hw))) hgood hOK.1 hOK.2.1 hS hsize d0 d3 d4 d6 d9 (fun x hx => absurd (ht x hx) (fun h => h)) hR.1 hR.2.1 (by show 0 + 1 ≤ _; omega) (by show 0 + 6 ≤ _; omega) hlocks (fun t hW hz hq => ?_) hS.2.2 (Nat.le_refl _) (Nat.le_refl _))
  exact ⟨σ, trivial, ⟨⟨k, rfl, hcls⟩, hP.kept (fun j q hj => hq q.1 ((hP j q hj).lt)), va_K.moved hW hK, hD⟩, ⟨Nat.le_trans hS.1 hz, fun q h1 h2 => (hq q (Nat.lt_of_lt_of_le h1 hS.1)).trans (hS.2.1 q h1 h2)⟩⟩
theorem gx_throwSW {own cls text : String} {ik is ic k : Nat} {Qc : Array Value → State → Outcome → State → Prop} (hx : p.tables.exec = Jvm.exec) (hb : c.code = cc) (hl : l.stackTraces = false) (hown : s.vm.findClass own = some m.cls) (hcls : cls = exn (k + 1)) (hfit : Bundle.fit cls = true)
    (hk : (Cond.classLink own ik cls).before args s = true) (hini : (Cond.initialized cls).before args s = true) (hat : ∀ w ∈ (vx_atS own ic cls gNms).filter goodWord, w.before args s = true) (hno : ∀ w ∈ (vx_atS own ic cls gNms).filter (fun w => !goodWord w), w ∈ gNw)
    (hgood : ∀ w ∈ Cond.classLink own ik cls :: Cond.initialized cls :: vx_atS own ic cls gNms, vx_ot w = true) (hOK : gOK gStr A s s.heap) (hstr : (own, is, text) ∈ gStr) (hsize : ls.size = c.maxLocals) (ht : ∀ x ∈ c.exceptionTable.toList, False) (hlocks : meth.locks = false)
    (hP : va_P D vwCl (w σ) H) (hK : va_K D vwCl tys s) (hD : va_D A (w σ)) (hS : va_S A s.heap H locs)
    (d0 : decode cc pc = .ok (.new ik, 3)) (d3 : decode cc (pc + 3) = .ok (.dup, 1)) (d4 : decode cc (pc + 4) = .ok (.ldc_w is, 3)) (d6 : decode cc (pc + 7) = .ok (.invokespecial ic, 3)) (d9 : decode cc (pc + 10) = .ok (.athrow, 1))
    (hR : 5 < R.frames ∧ 82 ≤ R.locals ∧ 1 ≤ R.cells ∧ 6 ≤ R.slots) (hF : some ((k + 1, 0, σ) : tyX) = some res) :
    W p l e R s m args below meth c H locs 0 0 (ty_MQ below Qc (gXC D w tys A res) args s 1 6 A) (F0 m pc ls []) := by
  have h := Option.some.inj hF
  subst h
  obtain ⟨sa, hsa⟩ := hOK.2.2.2 _ hstr
  refine ty_thrown (vx_throwSW (names := gNms) hx hb hl hown hfit (by decide +kernel) hk hini hsa (vx_hat hat hno (fun w hw => va_Nw.use (by simp only [gNw, List.mem_cons, List.not_mem_nil, or_false] at hw; rcases hw with rfl | rfl | rfl | rfl | rfl | rfl <;> rfl) (hOK.2.2.1 w hw))) hgood hOK.1 hOK.2.1 hS hsize d0 d3 d4 d6 d9 (fun x hx => absurd (ht x hx) (fun h => h)) hR.1 hR.2.1 (by show 0 + 1 ≤ _; omega) (by show 0 + 6 ≤ _; omega) hlocks (fun t hW hz hq => ?_) hS.2.2 (Nat.le_refl _) (Nat.le_refl _))
  exact ⟨σ, trivial, ⟨⟨k, rfl, hcls⟩, hP.kept (fun j q hj => hq q.1 ((hP j q hj).lt)), va_K.moved hW hK, hD⟩, ⟨Nat.le_trans hS.1 hz, fun q h1 h2 => (hq q (Nat.lt_of_lt_of_le h1 hS.1)).trans (hS.2.1 q h1 h2)⟩⟩
/-! stores -/
theorem gw_iast (hx : p.tables.exec = Jvm.exec) (hb : c.code = cc) (hK : va_K D vwCl tys s) (hP : va_P D vwCl (w σ) H) (hD : va_D A (w σ)) (hS : va_S A s.heap H locs) {q0 t0 a n : Nat} {cA : ClassId} (ha : (w σ)[q0]? = some (a, .inl (cA, n, .inl (σ.1 q0)))) (ht : tys[t0]? = some (cA, .int)) (hset : ∀ f, (w σ).set q0 (a, .inl (cA, n, .inl f)) = w (sA σ q0 f)) {i x : Int32} (hin : vp_in i n) (hdg : decode cc pc = .ok (.iastore, 1)) (hτ : τ = sW σ q0 i x)
    (kk : ∀ (H1 : Heap) (locs1 : List Loc), va_P D vwCl (w τ) H1 → va_D A (w τ) → va_S A s.heap H1 locs1 → W p l e R s m args below meth c H1 locs1 0 0 Q (F0 m (pc + 1) ls rest)) : W p l e R s m args below meth c H locs 0 0 Q (F0 m pc ls (.int x :: .int i :: .ref a :: rest)) := by
  refine va_iast hx hb hK hP hD hS q0 t0 ha ht hin hdg (fun H1 locs1 hP1 hD1 hS1 => ?_)
  rw [hset] at hP1 hD1
  rw [hτ] at kk
  exact kk H1 locs1 hP1 hD1 hS1
theorem gw_zast (hx : p.tables.exec = Jvm.exec) (hb : c.code = cc) (hK : va_K D vwCl tys s) (hP : va_P D vwCl (w σ) H) (hD : va_D A (w σ)) (hS : va_S A s.heap H locs) {q0 t0 a n : Nat} {cA : ClassId} (ha : (w σ)[q0]? = some (a, .inl (cA, n, .inl (σ.1 q0)))) (ht : tys[t0]? = some (cA, .boolean)) (hset : ∀ f, (w σ).set q0 (a, .inl (cA, n, .inl f)) = w (sA σ q0 f)) {i x x' : Int32} (hx' : vp_nar .boolean x = x') (hin : vp_in i n) (hdg : decode cc pc = .ok (.bastore, 1)) (hτ : τ = sW σ q0 i x')
    (kk : ∀ (H1 : Heap) (locs1 : List Loc), va_P D vwCl (w τ) H1 → va_D A (w τ) → va_S A s.heap H1 locs1 → W p l e R s m args below meth c H1 locs1 0 0 Q (F0 m (pc + 1) ls rest)) : W p l e R s m args below meth c H locs 0 0 Q (F0 m pc ls (.int x :: .int i :: .ref a :: rest)) := by
  refine va_zast hx hb hK hP hD hS q0 t0 ha ht hin hdg (fun H1 locs1 hP1 hD1 hS1 => ?_)
  rw [hset, hx'] at hP1 hD1
  rw [hτ] at kk
  exact kk H1 locs1 hP1 hD1 hS1
theorem gw_put (hx : p.tables.exec = Jvm.exec) (hb : c.code = cc) {ref : String} {T : u_T} {N ci : Nat} (hts : ∀ w ∈ Ts, w.before args s = true) (hin : ∀ w ∈ u_ws C T N, w ∈ Ts) (ty0 : Nat → FieldType) (hty : ∀ k, k < N → parseFieldDescriptor (T k).2.2.1 = some (ty0 k)) (hnm : ∀ a, a < N → ∀ b, b < N → a ≠ b → (T a).2.1 ≠ (T b).2.1) (hown : s.vm.findClass own = some m.cls) (hK : va_K D vwCl tys s) (hP : va_P D vwCl (w σ) H) (hD : va_D A (w σ)) (hS : va_S A s.heap H locs) (q0 : Nat) {a : Nat} {fs : List Value} (he : (w σ)[q0]? = some (a, .inr (ci, fs))) (hc : vwCl[ci]? = some (C, T, N)) (k : Nat) (hk : k < N) (hlink : (Cond.fieldLink own index ref (T k).2.1 (T k).2.2.1).before args s = true) (hsame : ∀ x, s.fieldFound? (T k).1 (T k).2.1 (T k).2.2.1 = some x → s.fieldFound? ref (T k).2.1 (T k).2.2.1 = some x) (hfin : (T k).2.2.2 = false) {x : Int32} (hd : parseFieldDescriptor (T k).2.2.1 = some .int) (hl : k < fs.length) {v : Nat} (hset : (w σ).set q0 (a, .inr (ci, fs.set k (.int x))) = w (sV σ v x))
    (hdg : decode cc pc = .ok (.putfield index, 3)) (hτ : τ = sV σ v x)
    (kk : ∀ (H1 : Heap) (locs1 : List Loc), va_P D vwCl (w τ) H1 → va_D A (w τ) → va_S A s.heap H1 locs1 → W p l e R s m args below meth c H1 locs1 0 0 Q (F0 m (pc + 3) ls rest)) : W p l e R s m args below meth c H locs 0 0 Q (F0 m pc ls (.int x :: .ref a :: rest)) := by
  refine va_put (ty := .int) hx hb hts hin ty0 hty hnm hown hK hP hD hS q0 he hc k hk hlink hsame hfin hd rfl rfl hl hdg (fun H1 locs1 hP1 hD1 hS1 => ?_)
  rw [hset] at hP1 hD1
  rw [hτ] at kk
  exact kk H1 locs1 hP1 hD1 hS1
end GC
