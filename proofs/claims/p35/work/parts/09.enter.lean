/-! ===== the frames behind a call and behind a return ===== -/
def pz_room (pl : Platform) (fs : List Frame) (L : Nat) : Bool := match Nat.blt fs.length pl.maxFrames with
  | true => Nat.ble ((stackUse fs).2 + L + 11) pl.maxStackSlots
  | false => false
def pz_enter (pl : Platform) (f : JFrame) (r : List Frame) (m : MethodId) (L : Nat) (args st : List Value) : Option (List Frame) := match pz_room pl (.java { f with stack := st } :: r) L with
  | true => some (.java { method := m, pc := 0, locals := argsToLocals args.toArray L, stack := [], locked := none } :: .java { f with stack := st } :: r)
  | false => none
/-- the thread has no size of its own -/
def pz_thr (S : State) : Bool := match S.threads[S.cur]? with
  | some t => Nat.beq t.stackBytes 0
  | none => false
theorem pz_thr_cur {S : State} (h : pz_thr S = true) : S.cur < S.threads.size := by
  unfold pz_thr at h
  split at h
  · rename_i t ht
    exact (Array.getElem?_eq_some_iff.mp ht).1
  · cases h
theorem pz_C_thread {S : State} {hp : List Cell} {su : Nat} {fs : List Frame} (h : pz_thr S = true) : (((pz_C S hp su fs).threads[(pz_C S hp su fs).cur]?).getD { frames := [] }).stackBytes = 0 := by
  unfold pz_thr at h
  split at h
  · rename_i t ht
    have h1 : (pz_C S hp su fs).threads[(pz_C S hp su fs).cur]? = some { t with frames := fs } := by
      show (S.threads.modify S.cur fun t => { t with frames := fs })[S.cur]? = _
      rw [Array.getElem?_modify, if_pos rfl, ht]
      rfl
    rw [h1]
    exact Nat.eq_of_beq_eq_true h
  · cases h
section PZ5
variable {p : Program} {e : Env} {r fs : List Frame} {S : State} {c : Code} {hp : List Cell} {su : Nat}
theorem pz_invoke_ok (hT : pz_thr S = true) {f : JFrame} {m : MethodId} {L : Nat} {args st : List Value} {meth : Method} {c0 : Code} (hm : S.vm.method? m = some meth) (hc : meth.code = some c0) (hl : meth.locks = false) (hL : c0.maxLocals = L)
    (h : pz_enter e.platform f r m L args st = some fs) (acts : List Action) : (doInvoke e (pz_C S hp su (.java { f with stack := st } :: r)) acts m args.toArray).1 = pz_C S hp su fs := by
  have hcur := pz_thr_cur hT
  subst hL
  unfold pz_enter at h
  split at h
  · rename_i hr
    cases h
    have hroom : e.platform.stackFull (((pz_C S hp su (.java { f with stack := st } :: r)).threads[(pz_C S hp su (.java { f with stack := st } :: r)).cur]?).getD { frames := [] }) (pz_C S hp su (.java { f with stack := st } :: r)).frames c0.maxLocals = false := by
      rw [pz_C_frames hcur]
      unfold pz_room at hr
      split at hr
      · rename_i h1
        exact Platform.stackFull_plain (pz_C_thread hT) (Nat.le_of_ble_eq_true h1) (Nat.le_of_ble_eq_true hr)
      · cases hr
    have h2 := (doInvoke_java (e := e) (s := pz_C S hp su (.java { f with stack := st } :: r)) (acts := acts) (m := m) (args := args.toArray) (meth := meth) (code := c0) hm hc hl hroom).1
    rw [h2]
    show (pz_C S hp su (.java { f with stack := st } :: r)).setFrames (_ :: (pz_C S hp su (.java { f with stack := st } :: r)).frames) = _
    rw [pz_C_frames hcur]
    exact State.setFrames_setFrames _ _ _
  · cases h
/-- the arguments of a call on the stack -/
def pz_args (n : Nat) (st : List Value) : Option (List Value × List Value) := match Nat.beq (st.take n).length n with
  | true => some ((st.take n).reverse, st.drop n)
  | false => none
theorem pz_args_ok {n : Nat} {st a b : List Value} (h : pz_args n st = some (a, b)) : a.length = n ∧ st = a.reverse ++ b := by
  unfold pz_args at h
  split at h
  · rename_i hn
    cases h
    refine ⟨by rw [List.length_reverse]; exact Nat.eq_of_beq_eq_true hn, by rw [List.reverse_reverse, List.take_append_drop]⟩
  · cases h
theorem pz_static_ok (hx : p.tables.exec = Jvm.exec) (hT : pz_thr S = true) {f : JFrame} {idx len n L : Nat} {m : MethodId} {args st : List Value} (hd : decode c.code f.pc = .ok (.invokestatic idx, len)) (X : At (pz_C S hp su (.java f :: r)) f.method c r)
    (hi : pz_st e S.vm f.method.cls idx = some (m, n, L)) (ha : pz_args n f.stack = some (args, st)) (hen : pz_enter e.platform f r m L args st = some fs) (tg : State)
    (a0 : Steps p.tables e r (pz_C S hp su fs) tg) : Steps p.tables e r (pz_C S hp su (.java f :: r)) tg := by
  have hcur := pz_thr_cur hT
  obtain ⟨hlen, hst⟩ := pz_args_ok ha
  obtain ⟨h1, h2, k, meth, c0, h3, h4, h5, h6, h7, h8, h9, h10, h11⟩ := pz_st_ok (s := pz_C S hp su (.java f :: r)) hi
  have hself : (pz_C S hp su (.java f :: r)).setTop f = pz_C S hp su (.java f :: r) := pz_C_top hcur
  rw [← hself]
  jvm_step X [X.top, hx, hd, invokestatic.wp_ready (e := e) (s := pz_C S hp su (.java f :: r)) (f := f) (args := args) (rest := st) X.top h1 h2 h3 h4 h5 h6 h7 (hlen.trans h8.symm) hst]
  rw [pz_C_top hcur]
  first
  | (intro acts; rw [pz_invoke_ok hT (S := S) (hp := hp) (su := su) h4 h9 h10 h11 hen acts]; exact a0)
  | (rw [pz_invoke_ok hT (S := S) (hp := hp) (su := su) h4 h9 h10 h11 hen _]; exact a0)
theorem pz_virtual_ok (hx : p.tables.exec = Jvm.exec) (hT : pz_thr S = true) {f : JFrame} {idx len n L a : Nat} {r0 m : MethodId} {args st : List Value} {cl0 : Cell} (hd : decode c.code f.pc = .ok (.invokevirtual idx, len)) (X : At (pz_C S hp su (.java f :: r)) f.method c r)
    (hi : pz_vt S.vm f.method.cls idx = some (r0, n)) (ha : pz_args n f.stack = some (args, .ref a :: st)) (hc : hp[a]? = some cl0) (hv : cl0.vm = .none) (hsel : pz_sel e.platform S.vm cl0.cls r0 = some (m, L))
    (hen : pz_enter e.platform f r m L (.ref a :: args) st = some fs) (tg : State)
    (a0 : Steps p.tables e r (pz_C S hp su fs) tg) : Steps p.tables e r (pz_C S hp su (.java f :: r)) tg := by
  have hcur := pz_thr_cur hT
  obtain ⟨hlen, hst⟩ := pz_args_ok ha
  obtain ⟨h1, h2, k, rm, h3, h4, h5, h6, h7⟩ := pz_vt_ok (s := pz_C S hp su (.java f :: r)) hi
  obtain ⟨g1, meth, kM, c0, g2, g3, g4, g5, g6, g7, g8⟩ := pz_sel_ok hsel
  have hself : (pz_C S hp su (.java f :: r)).setTop f = pz_C S hp su (.java f :: r) := pz_C_top hcur
  have hc1 : (pz_C S hp su (.java f :: r)).heap[a]? = some cl0 := (pz_C_get ..).trans hc
  rw [← hself]
  jvm_step X [X.top, hx, hd, invokevirtual.wp_ready (e := e) (s := pz_C S hp su (.java f :: r)) (f := f) (args := args) (rest := st) (m := m) (meth := meth) (mk := kM) X.top h1 h2 h3 h4 h5 h6 (hlen.trans h7.symm) hst hc1 (fun q hq => by rw [hv] at hq; cases hq) g1 g2 g3 g4 g5]
  rw [pz_C_top hcur]
  first
  | (intro acts; rw [pz_invoke_ok hT (S := S) (hp := hp) (su := su) g2 g6 g7 g8 hen acts]; exact a0)
  | (rw [pz_invoke_ok hT (S := S) (hp := hp) (su := su) g2 g6 g7 g8 hen _]; exact a0)
end PZ5
/-! ===== END ===== -/
