/-! ===== special calls, returns ===== -/
section PZ6
variable {p : Program} {e : Env} {r fs : List Frame} {S : State} {c : Code} {hp : List Cell} {su : Nat}
theorem pz_sp_ok {vm : Vm} {d idx n L : Nat} {m : MethodId} (h : pz_sp vm d idx = some (m, n, L)) :
    ∃ ci nt named ck nk kM cf meth c0, vm.methodReady d idx m ∧ vm.method? m = some meth ∧ vm.classes[d]? = some ck ∧ ck.cf = some cf ∧ cf.constantPool[idx]? = some (.methodref ci nt) ∧ vm.classReady d ci named ∧ vm.classes[named]? = some nk ∧
      (meth.name == "<init>" && m.cls != named) = false ∧ meth.isStatic = false ∧ ck.isInterface = false ∧ meth.isAbstract = false ∧ vm.classes[m.cls]? = some kM ∧
      lookupSpecial vm (if meth.name != "<init>" && !nk.isInterface && (named != d && vm.isSubclass d named) then ck.super.getD named else named) meth.name meth.desc = .method m ∧ meth.sig.parameters.length = n ∧
      meth.code = some c0 ∧ meth.locks = false ∧ c0.maxLocals = L := by
  unfold pz_sp at h
  split at h
  · rename_i r0 hr0
    split at h
    · rename_i rm ck hrm hck
      split at h
      · rename_i cf hcf
        split at h
        · rename_i ci nt hcp
          split at h
          · rename_i named hn
            split at h
            · rename_i nk hnk
              split at h
              · rename_i kM h1 h2 h3 h4 h5
                split at h
                · rename_i m' hl
                  split at h
                  · rename_i hm
                    split at h
                    · rename_i L' hb
                      cases h
                      subst hm
                      obtain ⟨meth', c0, q1, q2, q3, q4⟩ := pz_body_ok hb
                      cases hrm.symm.trans q1
                      exact ⟨ci, nt, named, ck, nk, kM, cf, rm, c0, pz_mth_ok hr0, hrm, hck, hcf, hcp, pz_clr_ok hn, hnk, h1, h2, h3, h4, h5, hl, rfl, q2, q3, q4⟩
                    · cases h
                  · cases h
                · cases h
              · cases h
            · cases h
          · cases h
        · cases h
      · cases h
    · cases h
  · cases h
theorem pz_special_ok (hx : p.tables.exec = Jvm.exec) (hT : pz_thr S = true) {f : JFrame} {idx len n L a : Nat} {m : MethodId} {args st : List Value} {cl0 : Cell} {kc : Class} (hd : decode c.code f.pc = .ok (.invokespecial idx, len)) (X : At (pz_C S hp su (.java f :: r)) f.method c r)
    (hi : pz_sp S.vm f.method.cls idx = some (m, n, L)) (ha : pz_args n f.stack = some (args, .ref a :: st)) (hc : hp[a]? = some cl0) (hv : cl0.vm = .none) (hkc : S.vm.classes[cl0.cls]? = some kc)
    (hen : pz_enter e.platform f r m L (.ref a :: args) st = some fs) (tg : State)
    (a0 : Steps p.tables e r (pz_C S hp su fs) tg) : Steps p.tables e r (pz_C S hp su (.java f :: r)) tg := by
  have hcur := pz_thr_cur hT
  obtain ⟨hlen, hst⟩ := pz_args_ok ha
  obtain ⟨ci, nt, named, ck, nk, kM, cf, meth, c0, h1, h2, h3, h4, h5, h6, h7, h8, h9, h10, h11, h12, h13, h14, h15, h16, h17⟩ := pz_sp_ok hi
  have hself : (pz_C S hp su (.java f :: r)).setTop f = pz_C S hp su (.java f :: r) := pz_C_top hcur
  have hc1 : (pz_C S hp su (.java f :: r)).heap[a]? = some cl0 := (pz_C_get ..).trans hc
  rw [← hself]
  jvm_step X [X.top, hx, hd, invokespecial.wp_ready (e := e) (s := pz_C S hp su (.java f :: r)) (f := f) (args := args) (rest := st) (m := m) (meth := meth) (mk := kM) (ck := ck) (nk := nk) (kcell := kc) X.top h1 h2 h3 h4 h5 h6 h7 h8 h9 h13 rfl (Or.inr (Or.inl h10)) h2 h12 h11 (hlen.trans h14.symm) hst hc1 (fun q hq => by rw [hv] at hq; cases hq) hkc]
  rw [pz_C_top hcur]
  first
  | (intro acts; rw [pz_invoke_ok hT (S := S) (hp := hp) (su := su) h2 h15 h16 h17 hen acts]; exact a0)
  | (rw [pz_invoke_ok hT (S := S) (hp := hp) (su := su) h2 h15 h16 h17 hen _]; exact a0)
/-- the frames behind a return -/
def pz_back (vm : Vm) (f : JFrame) (r : List Frame) (v : Option Value) : Option (List Frame) := match r with
  | .java g :: r' => match vm.method? f.method with
    | some meth => match meth.locks, f.locked, f.entered with
      | false, none, [] => match State.code? ({ vm := vm } : State) g.method with
        | some cg => match pz_dec cg.code g.pc with
          | some (_, len) => pz_n (g.pc + len) fun pc => some (.java { g with pc := pc, stack := v.toList ++ g.stack } :: r')
          | none => none
        | none => none
      | _, _, _ => none
    | none => none
  | _ => none
theorem pz_dec_ok {b : ByteArray} {pc : Nat} {q : Instr × Nat} (h : pz_dec b pc = some q) : decode b pc = .ok q := by
  unfold pz_dec at h
  rw [pz_n_eq] at h
  split at h
  · rename_i r hr
    cases h
    exact hr
  · cases h
theorem pz_back_ok (hcur : S.cur < S.threads.size) {f f1 : JFrame} {v : Option Value} (hm : f1.method = f.method) (hl : f1.locked = f.locked) (hn : f1.entered = f.entered) (h : pz_back S.vm f r v = some fs) (acts : List Action) :
    (doReturn e (pz_C S hp su (.java f1 :: r)) acts v).1 = pz_C S hp su fs := by
  unfold pz_back at h
  split at h
  · rename_i g r'
    split at h
    · rename_i meth hmeth
      split at h
      · rename_i h1 h2 h3
        split at h
        · rename_i cg hcg
          split at h
          · rename_i i len hd
            rw [pz_n_eq] at h
            cases h
            have h4 := (doReturn_java (e := e) (s := pz_C S hp su (.java f1 :: .java g :: r')) (acts := acts) (v := v) (f := f1) (g := g) (r := r') (meth := meth) (cg := cg) (ig := i) (len := len) (pz_C_frames hcur) (by rw [hm]; exact hmeth) h1 (hl.trans h2) (hn.trans h3) hcg (pz_dec_ok hd)).1
            rw [h4]
            exact State.setFrames_setFrames _ _ _
          · cases h
        · cases h
      · cases h
    · cases h
  · cases h
/-- an instruction that returns -/
def pz_ret (vm : Vm) (i : Instr) (f : JFrame) (r : List Frame) : Option (List Frame) := match i with
  | .return_ => pz_back vm f r none
  | .ireturn => match f.stack with
    | .int x :: _ => match vm.method? f.method with
      | some meth => match meth.sig.returnType with
        | some t => match narrow t (.int x) with
          | .int y => pz_i y fun y => pz_back vm f r (some (.int y))
          | _ => none
        | none => none
      | none => none
    | _ => none
  | _ => none
theorem pz_ret_ok (hx : p.tables.exec = Jvm.exec) (hcur : S.cur < S.threads.size) {f : JFrame} {i : Instr} {len : Nat} (hd : decode c.code f.pc = .ok (i, len)) (X : At (pz_C S hp su (.java f :: r)) f.method c r)
    (h : pz_ret S.vm i f r = some fs) (tg : State) (a0 : pz_C S hp su fs = tg) : Steps p.tables e r (pz_C S hp su (.java f :: r)) tg := by
  subst a0
  have hself : (pz_C S hp su (.java f :: r)).setTop f = pz_C S hp su (.java f :: r) := pz_C_top hcur
  unfold pz_ret at h
  split at h
  · rw [← hself]
    jvm_step X [X.top, hx, hd]
    have hb := pz_back_ok (e := e) (hp := hp) (su := su) (S := S) hcur (f1 := f) rfl rfl rfl h
    rw [hself]
    first
    | (intro acts; rw [hb acts]; exact Steps.refl _)
    | (rw [hb _]; exact Steps.refl _)
  · split at h
    · rename_i x st hs
      split at h
      · rename_i meth hm
        split at h
        · rename_i t ht
          split at h
          · rename_i y hy
            rw [pz_i_eq] at h
            have hm1 : (pz_C S hp su (.java f :: r)).vm.method? f.method = some meth := hm
            rw [← hself]
            jvm_step X [X.top, hx, hd, hs, hm1, ht, hy]
            have hb := pz_back_ok (e := e) (hp := hp) (su := su) (S := S) hcur (f1 := { f with stack := st }) rfl rfl rfl h
            rw [pz_C_top hcur]
            first
            | (intro acts; rw [hb acts]; exact Steps.refl _)
            | (rw [hb _]; exact Steps.refl _)
          · cases h
        · cases h
      · cases h
    · cases h
  · cases h
end PZ6
/-! ===== END ===== -/
