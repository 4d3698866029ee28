/-! ===== calls and returns ===== -/
def pz_clr (vm : Vm) (d idx : Nat) : Option Nat := match vm.classes[d]? with
  | some k => match k.resolved[idx]? with
    | some (some (.cls c)) => some c
    | _ => none
  | none => none
def pz_mth (vm : Vm) (d idx : Nat) : Option MethodId := match vm.classes[d]? with
  | some k => match k.resolved[idx]? with
    | some (some (.method m)) => some m
    | _ => none
  | none => none
theorem pz_clr_ok {vm : Vm} {d idx c : Nat} (h : pz_clr vm d idx = some c) : vm.classReady d idx c := by
  unfold pz_clr at h
  split at h
  · rename_i k hk
    split at h
    · rename_i c' hr
      cases h
      exact ⟨k, hk, hr⟩
    · cases h
  · cases h
theorem pz_mth_ok {vm : Vm} {d idx : Nat} {m : MethodId} (h : pz_mth vm d idx = some m) : vm.methodReady d idx m := by
  unfold pz_mth at h
  split at h
  · rename_i k hk
    split at h
    · rename_i m' hr
      cases h
      exact ⟨k, hk, hr⟩
    · cases h
  · cases h
/-- the code of a method that takes no monitor: how many locals -/
def pz_body (vm : Vm) (m : MethodId) : Option Nat := match vm.method? m with
  | some meth => match meth.code, meth.locks with
    | some c, false => some c.maxLocals
    | _, _ => none
  | none => none
theorem pz_body_ok {vm : Vm} {m : MethodId} {L : Nat} (h : pz_body vm m = some L) : ∃ meth c, vm.method? m = some meth ∧ meth.code = some c ∧ meth.locks = false ∧ c.maxLocals = L := by
  unfold pz_body at h
  split at h
  · rename_i meth hm
    split at h
    · rename_i c h1 h2
      cases h
      exact ⟨meth, c, hm, h1, h2, rfl⟩
    · cases h
  · cases h
def pz_pref (e : Env) (vm : Vm) (d idx : Nat) : Bool := match ((memberRef d idx).ask e.toSetting vm).1 with
  | .ok (ci, _, _, _) => match pz_clr vm d ci with
    | some c' => match vm.classes[c']? with
      | some k' => !(k'.name == "java/lang/invoke/MethodHandle" || k'.name == "java/lang/invoke/VarHandle")
      | none => false
    | none => false
  | .error _ => false
theorem pz_pref_ok {e : Env} {s : State} {d idx : Nat} (h : pz_pref e s.vm d idx = true) : plainRef s e d idx := by
  unfold pz_pref at h
  split at h
  · rename_i ci name desc b hr
    split at h
    · rename_i c' hc
      split at h
      · rename_i k' hk
        have h0 : (k'.name == "java/lang/invoke/MethodHandle" || k'.name == "java/lang/invoke/VarHandle") = false := by
          rw [Bool.not_eq_true'] at h
          exact h
        have h1 : ∀ x, signaturePolymorphic k' x = false := fun x => by
          unfold signaturePolymorphic
          rw [h0]
          rfl
        exact ⟨ci, name, desc, b, c', k', hr, pz_clr_ok hc, hk, by simp [h1]⟩
      · cases h
    · cases h
  · cases h
/-- a static call: the method, its parameters, its locals -/
def pz_st (e : Env) (vm : Vm) (d idx : Nat) : Option (MethodId × Nat × Nat) := match pz_pref e vm d idx with
  | true => match pz_mth vm d idx with
    | some m => match vm.classes[m.cls]? with
      | some k => match vm.method? m with
        | some meth => match signaturePolymorphic k meth, meth.isStatic, k.init with
          | false, true, .initialized => match pz_body vm m with
            | some L => some (m, meth.sig.parameters.length, L)
            | none => none
          | _, _, _ => none
        | none => none
      | none => none
    | none => none
  | false => none
theorem pz_st_ok {e : Env} {s : State} {d idx n L : Nat} {m : MethodId} (h : pz_st e s.vm d idx = some (m, n, L)) :
    plainRef s e d idx ∧ s.vm.methodReady d idx m ∧ ∃ k meth c, s.vm.classes[m.cls]? = some k ∧ s.vm.method? m = some meth ∧ signaturePolymorphic k meth = false ∧ meth.isStatic = true ∧ k.init = .initialized ∧ meth.sig.parameters.length = n ∧
      meth.code = some c ∧ meth.locks = false ∧ c.maxLocals = L := by
  unfold pz_st at h
  split at h
  · rename_i hp
    split at h
    · rename_i m' hm
      split at h
      · rename_i k hk
        split at h
        · rename_i meth hmeth
          split at h
          · rename_i h1 h2 h3
            split at h
            · rename_i L' hb
              cases h
              obtain ⟨meth', c, q1, q2, q3, q4⟩ := pz_body_ok hb
              cases hmeth.symm.trans q1
              exact ⟨pz_pref_ok hp, pz_mth_ok hm, k, meth, c, hk, hmeth, h1, h2, h3, rfl, q2, q3, q4⟩
            · cases h
          · cases h
        · cases h
      · cases h
    · cases h
  · cases h
def pz_named (vm : Vm) (d idx : Nat) : Bool := match vm.classes[d]? with
  | some kc => match kc.cf with
    | some cf => match cf.constantPool[idx]? with
      | some (.methodref ci _) => match pz_clr vm d ci with
        | some c' => match vm.classes[c']? with
          | some k' => !k'.isInterface
          | none => false
        | none => false
      | _ => false
    | none => false
  | none => false
theorem pz_named_ok {s : State} {d idx : Nat} (h : pz_named s.vm d idx = true) : namesAClass s d idx := by
  unfold pz_named at h
  split at h
  · rename_i kc hkc
    split at h
    · rename_i cf hcf
      split at h
      · rename_i ci n hr
        split at h
        · rename_i c' hc
          split at h
          · rename_i k' hk
            exact ⟨kc, cf, ci, n, c', k', hkc, hcf, hr, pz_clr_ok hc, hk, by simpa using h⟩
          · cases h
        · cases h
      · cases h
    · cases h
  · cases h
/-- a virtual call: the method that is named, and its parameters -/
def pz_vt (vm : Vm) (d idx : Nat) : Option (MethodId × Nat) := match pz_named vm d idx with
  | true => match pz_mth vm d idx with
    | some r => match vm.classes[r.cls]? with
      | some k => match vm.method? r with
        | some rm => match signaturePolymorphic k rm, rm.isStatic with
          | false, false => some (r, rm.sig.parameters.length)
          | _, _ => none
        | none => none
      | none => none
    | none => none
  | false => none
theorem pz_vt_ok {s : State} {d idx n : Nat} {r : MethodId} (h : pz_vt s.vm d idx = some (r, n)) :
    namesAClass s d idx ∧ s.vm.methodReady d idx r ∧ ∃ k rm, s.vm.classes[r.cls]? = some k ∧ s.vm.method? r = some rm ∧ signaturePolymorphic k rm = false ∧ rm.isStatic = false ∧ rm.sig.parameters.length = n := by
  unfold pz_vt at h
  split at h
  · rename_i hp
    split at h
    · rename_i m' hm
      split at h
      · rename_i k hk
        split at h
        · rename_i rm hrm
          split at h
          · rename_i h1 h2
            cases h
            exact ⟨pz_named_ok hp, pz_mth_ok hm, k, rm, hk, hrm, h1, h2, rfl⟩
          · cases h
        · cases h
      · cases h
    · cases h
  · cases h
/-- the method that is selected for an object's class -/
def pz_sel (pl : Platform) (vm : Vm) (cc : Nat) (r : MethodId) : Option (MethodId × Nat) := match selectMethod pl vm cc r with
  | .method m => match vm.method? m with
    | some meth => match meth.isAbstract, vm.classes[m.cls]? with
      | false, some kM => match kM.isInterface, pz_body vm m with
        | false, some L => some (m, L)
        | _, _ => none
      | _, _ => none
    | none => none
  | _ => none
theorem pz_sel_ok {pl : Platform} {vm : Vm} {cc L : Nat} {r m : MethodId} (h : pz_sel pl vm cc r = some (m, L)) :
    selectMethod pl vm cc r = .method m ∧ ∃ meth mk c, vm.method? m = some meth ∧ meth.isAbstract = false ∧ vm.classes[m.cls]? = some mk ∧ mk.isInterface = false ∧ meth.code = some c ∧ meth.locks = false ∧ c.maxLocals = L := by
  unfold pz_sel at h
  split at h
  · rename_i m' hs
    split at h
    · rename_i meth hm
      split at h
      · rename_i mk h1 hmk
        split at h
        · rename_i L' h2 hb
          cases h
          obtain ⟨meth', c, q1, q2, q3, q4⟩ := pz_body_ok hb
          cases hm.symm.trans q1
          exact ⟨hs, meth, mk, c, hm, h1, hmk, h2, q2, q3, q4⟩
        · cases h
      · cases h
    · cases h
  · cases h
/-- a special call -/
def pz_sp (vm : Vm) (d idx : Nat) : Option (MethodId × Nat × Nat) := match pz_mth vm d idx with
  | some r0 => match vm.method? r0, vm.classes[d]? with
    | some r, some ck => match ck.cf with
      | some cf => match cf.constantPool[idx]? with
        | some (.methodref ci _) => match pz_clr vm d ci with
          | some named => match vm.classes[named]? with
            | some nk => match r.name == "<init>" && r0.cls != named, r.isStatic, ck.isInterface, r.isAbstract, vm.classes[r0.cls]? with
              | false, false, false, false, some _ => match lookupSpecial vm (if r.name != "<init>" && !nk.isInterface && (named != d && vm.isSubclass d named) then ck.super.getD named else named) r.name r.desc with
                | .method m => if m = r0 then match pz_body vm r0 with
                    | some L => some (r0, r.sig.parameters.length, L)
                    | none => none
                  else none
                | _ => none
              | _, _, _, _, _ => none
            | none => none
          | none => none
        | _ => none
      | none => none
    | _, _ => none
  | none => none
/-! ===== END ===== -/
