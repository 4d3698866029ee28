/-! ===== athrow, and calls and returns of a synchronized method ===== -/
/-- a synchronized instance method: its locals -/
def pz_selS (pl : Platform) (vm : Vm) (cc : Nat) (r : MethodId) : Option (MethodId × Nat) := match selectMethod pl vm cc r with
  | .method m => match vm.method? m with
    | some meth => match meth.isAbstract, vm.classes[m.cls]? with
      | false, some kM => match kM.isInterface, meth.code, meth.locks, meth.isStatic with
        | false, some c, true, false => some (m, c.maxLocals)
        | _, _, _, _ => none
      | _, _ => none
    | none => none
  | _ => none
theorem pz_selS_ok {pl : Platform} {vm : Vm} {cc L : Nat} {r m : MethodId} (h : pz_selS pl vm cc r = some (m, L)) :
    selectMethod pl vm cc r = .method m ∧ ∃ meth mk c, vm.method? m = some meth ∧ meth.isAbstract = false ∧ vm.classes[m.cls]? = some mk ∧ mk.isInterface = false ∧ meth.code = some c ∧ meth.locks = true ∧ meth.isStatic = false ∧ c.maxLocals = L := by
  unfold pz_selS at h
  split at h
  · rename_i m' hs
    split at h
    · rename_i meth hm
      split at h
      · rename_i kM h1 hmk
        split at h
        · rename_i c h2 h3 h4 h5
          cases h
          exact ⟨hs, meth, kM, c, hm, h1, hmk, h2, h3, h4, h5, rfl⟩
        · cases h
      · cases h
    · cases h
  · cases h
abbrev pz_K : Type := List Cell → JFrame → List Frame → Option (List Cell × List Frame)
/-- calls and returns that write a monitor -/
noncomputable def pz_kop (e : Env) (vm : Vm) (cur : Nat) (d : Nat) (i : Instr) : Option pz_K := match i with
  | .invokevirtual idx => match pz_vt vm d idx with
    | some (r0, n) => some fun hp f r => match pz_args n f.stack with
      | some (args, .ref a :: st) => match pz_at hp a with
        | some cl0 => match cl0.vm, cl0.monitor.owner with
          | .none, none => match pz_n cl0.cls fun cc => pz_selS e.platform vm cc r0 with
            | some (m, L) => match pz_c1 (.ref a :: args), Nat.blt (r.length + 1) e.platform.maxFrames with
              | true, true => match Nat.ble (pz_use r + (f.locals.size + 11 + 2 * f.monitorRoom + operandWords st) + (L + 2) + 11) e.platform.maxStackSlots with
                | true => some (pz_set hp a (cl0.withEntry cur), .java { method := m, pc := 0, locals := ⟨pz_lo (.ref a :: args) L⟩, stack := [], locked := some a, monitorRoom := 1 } :: .java { f with stack := st } :: r)
                | false => none
              | _, _ => none
            | none => none
          | _, _ => none
        | none => none
      | _ => none
    | none => none
  | .areturn => some fun hp f r => match f.stack, f.locked, f.entered, r with
    | .ref x :: _, some a, [], .java g :: r' => match vm.method? f.method, pz_at hp a, e.platform.frameOwnsMonitors with
      | some meth, some cl0, true => match meth.locks, meth.sig.returnType, State.code? ({ vm := vm } : State) g.method with
        | true, some t, some cg => match t.isReference, pz_dec cg.code g.pc, cl0.monitor.owner with
          | true, some (_, len), some o => match Nat.beq o cur with
            | true => pz_n (g.pc + len) fun pc => some (pz_set hp a cl0.left, .java { g with pc := pc, stack := .ref x :: g.stack } :: r')
            | false => none
          | _, _, _ => none
        | _, _, _ => none
      | _, _, _ => none
    | _, _, _, _ => none
  | .athrow => some fun hp f r => match f.stack with
    | .ref a :: st => some (hp, .throwing a :: .java { f with stack := st } :: r)
    | _ => none
  | _ => none
/-! ===== END ===== -/
