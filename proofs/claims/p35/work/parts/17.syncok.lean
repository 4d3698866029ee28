/-! ===== they do what they say ===== -/
section PZC
variable {p : Program} {e : Env} {S : State} {c : Code} {hp hp' : List Cell} {su : Nat} {f : JFrame} {r fs : List Frame}
theorem pz_setCellFrames (S : State) (hp : List Cell) (su : Nat) (fs gs : List Frame) (a : Nat) (x : Cell) : ((pz_C S hp su fs).setCell a x).setFrames gs = pz_C S (hp.set a x) su gs := by
  rw [pz_C_setCell]
  exact State.setFrames_setFrames _ _ _
theorem pz_kop_ok (hx : p.tables.exec = Jvm.exec) (hT : pz_thr S = true) {i : Instr} {len : Nat} {g : pz_K} (hd : decode c.code f.pc = .ok (i, len)) (X : At (pz_C S hp su (.java f :: r)) f.method c r)
    (h0 : pz_kop e S.vm S.cur f.method.cls i = some g) (h : g hp f r = some (hp', fs)) : Steps p.tables e r (pz_C S hp su (.java f :: r)) (pz_C S hp' su fs) := by
  have hcur := pz_thr_cur hT
  have hself : (pz_C S hp su (.java f :: r)).setTop f = pz_C S hp su (.java f :: r) := pz_C_top hcur
  unfold pz_kop at h0
  split at h0
  · split at h0
    · rename_i idx r0 n hi
      cases h0
      dsimp only at h
      split at h
      · rename_i args a st ha
        rw [pz_at_eq] at h
        split at h
        · rename_i cl0 hc
          split at h
          · rename_i hv hown
            rw [pz_n_eq] at h
            split at h
            · rename_i m L hsel
              split at h
              · rename_i g1 g2
                split at h
                · rename_i g3
                  cases h
                  obtain ⟨hlen, hst⟩ := pz_args_ok ha
                  obtain ⟨h1, h2, k, rm, h3, h4, h5, h6, h7⟩ := pz_vt_ok (s := pz_C S hp su (.java f :: r)) hi
                  obtain ⟨q1, meth, kM, c0, q2, q3, q4, q5, q6, q7, q8, q9⟩ := pz_selS_ok hsel
                  have hc1 : (pz_C S hp su (.java f :: r)).heap[a]? = some cl0 := (pz_C_get ..).trans hc
                  rw [← hself]
                  jvm_step X [X.top, hx, hd, invokevirtual.wp_ready (e := e) (s := pz_C S hp su (.java f :: r)) (f := f) (args := args) (rest := st) (m := m) (meth := meth) (mk := kM) X.top h1 h2 h3 h4 h5 h6 (hlen.trans h7.symm) hst hc1 (fun q hq => by rw [hv] at hq; cases hq) q1 q2 q3 q4 q5]
                  rw [pz_C_top hcur]
                  subst q9
                  have hroom : e.platform.stackFull (((pz_C S hp su (.java { f with stack := st } :: r)).threads[(pz_C S hp su (.java { f with stack := st } :: r)).cur]?).getD { frames := [] }) (pz_C S hp su (.java { f with stack := st } :: r)).frames (c0.maxLocals + 2) = false := by
                    rw [pz_C_frames hcur]
                    refine Platform.stackFull_plain (pz_C_thread hT) (Nat.le_of_ble_eq_true g2) ?_
                    rw [stackUse_java, ← pz_use_eq]
                    exact Nat.le_of_ble_eq_true g3
                  have hc2 : (pz_C S hp su (.java { f with stack := st } :: r)).heap[a]? = some cl0 := (pz_C_get ..).trans hc
                  have key : ∀ acts, (doInvoke e (pz_C S hp su (.java { f with stack := st } :: r)) acts m (.ref a :: args).toArray).1 = pz_C S (pz_set hp a (cl0.withEntry S.cur)) su (.java { method := m, pc := 0, locals := ⟨pz_lo (.ref a :: args) c0.maxLocals⟩, stack := [], locked := some a, monitorRoom := 1 } :: .java { f with stack := st } :: r) := by
                    intro acts
                    have h9 := (doInvoke_java_sync (e := e) (s := pz_C S hp su (.java { f with stack := st } :: r)) (acts := acts) (m := m) (args := (.ref a :: args).toArray) (meth := meth) (code := c0) (a := a) (cell := cl0) q2 q6 q7 q8 (by simp) hc2 (Or.inl hown) hroom).1
                    rw [h9, pz_set_eq]
                    show ((pz_C S hp su (.java { f with stack := st } :: r)).setCell a (cl0.withEntry S.cur)).setFrames (_ :: (pz_C S hp su (.java { f with stack := st } :: r)).frames) = _
                    rw [pz_C_frames hcur, pz_setCellFrames, entryFrameSync, pz_locs_eq _ _ g1]
                  first
                  | (intro acts; rw [key acts]; exact Steps.refl _)
                  | (rw [key _]; exact Steps.refl _)
                · cases h
              · cases h
            · cases h
          · cases h
        · cases h
      · cases h
    · cases h0
  · cases h0
    dsimp only at h
    split at h
    · rename_i x st a g r' hs hl hn
      split at h
      · rename_i meth cl0 hm hc hown
        rw [pz_at_eq] at hc
        split at h
        · rename_i t cg hlk hrt hcg
          split at h
          · rename_i i len o href hdg ho
            split at h
            · rename_i hocur
              rw [pz_n_eq] at h
              cases h
              have hoc := Nat.eq_of_beq_eq_true hocur
              subst hoc
              have hm1 : (pz_C S hp su (.java f :: .java g :: r')).vm.method? f.method = some meth := hm
              rw [← hself]
              jvm_step X [X.top, hx, hd, hs, hm1, hrt, href, show (Value.ref x).isRef = true from rfl]
              rw [pz_C_top hcur]
              have hc2 : (pz_C S hp su (.java { f with stack := st } :: .java g :: r')).heap[a]? = some cl0 := (pz_C_get ..).trans hc
              have hfs : handOver (pz_C S hp su (.java { f with stack := st } :: .java g :: r')) (some (.ref x)) (.java g :: r') = some (.java { g with pc := g.pc + len, stack := (some (Value.ref x)).toList ++ g.stack } :: r') := by
                have hcg1 : (pz_C S hp su (.java { f with stack := st } :: .java g :: r')).code? g.method = some cg := hcg
                simp [handOver, hcg1, pz_dec_ok hdg, Except.toOption]
              have key : ∀ acts, (doReturn e (pz_C S hp su (.java { f with stack := st } :: .java g :: r')) acts (some (.ref x))).1 = pz_C S (pz_set hp a cl0.left) su (.java { g with pc := g.pc + len, stack := .ref x :: g.stack } :: r') := by
                intro acts
                rw [doReturn_sync (s := pz_C S hp su (.java { f with stack := st } :: .java g :: r')) (f := { f with stack := st }) (below := .java g :: r') (cell := cl0) (a := a) hown (pz_C_frames hcur) hm hlk hl hn hc2 ho hfs, pz_setCellFrames, pz_set_eq]
                rfl
              first
              | (intro acts; rw [key acts]; exact Steps.refl _)
              | (rw [key _]; exact Steps.refl _)
            · cases h
          · cases h
        · cases h
      · cases h
    · cases h
  · cases h0
    dsimp only at h
    split at h
    · rename_i a st hs
      cases h
      rw [← hself]
      jvm_step X [X.top, hx, hd, hs]
      rw [pz_C_top hcur]
      have key : (pz_C S hp su (.java { f with stack := st } :: r)).pushFrame (.throwing a) = pz_C S hp su (.throwing a :: .java { f with stack := st } :: r) := by
        show (pz_C S hp su (.java { f with stack := st } :: r)).setFrames (_ :: (pz_C S hp su (.java { f with stack := st } :: r)).frames) = _
        rw [pz_C_frames hcur]
        exact State.setFrames_setFrames _ _ _
      rw [key]
      exact Steps.refl _
    · cases h
  · cases h0
end PZC
/-! ===== END ===== -/
