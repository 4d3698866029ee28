/-! ===== what makes objects and arrays; one instruction of a configuration ===== -/
section PZ4
variable {p : Program} {e : Env} {r : List Frame} {S : State} {c : Code} {hp : List Cell} {su : Nat}
theorem pz_intArr_ok {vm : Vm} {cA : Nat} (h : pz_intArr vm = some cA) : vm.findClass "[I" = some cA ∧ ∃ k, vm.classes[cA]? = some k ∧ ∃ comp, k.kind = .array comp .int := by
  unfold pz_intArr at h
  split at h
  · rename_i c' hc
    split at h
    · rename_i hi
      cases h
      exact ⟨hc, pz_ints_ok hi⟩
    · cases h
  · cases h
theorem pz_newarr_ok (hx : p.tables.exec = Jvm.exec) (hcur : S.cur < S.threads.size) {f : JFrame} {len cA : Nat} {n : Int32} {st : List Value} (hd : decode c.code f.pc = .ok (.newarray .int, len)) (X : At (pz_C S hp su (.java f :: r)) f.method c r)
    (hs : f.stack = .int n :: st) (hi : pz_intArr S.vm = some cA) (hn : ¬ n < 0) (h1 : n.toNatClampNeg ≤ e.platform.arrayLengthLimit) (h2 : n.toNatClampNeg * 4 ≤ e.platform.maxHeapBytes) (h3 : hp.length < e.platform.maxCells) (h4 : su + n.toNatClampNeg ≤ e.platform.maxSlots) :
    pz_To p e S r c hp su f (hp ++ [{ cls := cA, slots := ⟨List.replicate n.toNatClampNeg (.int 0)⟩, vm := .none }], su + n.toNatClampNeg, { f with pc := f.pc + len, stack := .ref hp.length :: st }) := by
  obtain ⟨hc, k, hk, comp, hkind⟩ := pz_intArr_ok hi
  have hz : su + n.toNatClampNeg = su + ({ cls := cA, slots := ⟨List.replicate n.toNatClampNeg (.int 0)⟩, vm := .none } : Cell).slots.size := by simp
  rw [hz]
  refine pz_ofPush hcur rfl X (fun tg a0 => ?_)
  have hsz : (pz_C S hp su (.java f :: r)).heap.size = hp.length := rfl
  have hsu : (pz_C S hp su (.java f :: r)).slotsUsed = su := rfl
  have hc1 : (pz_C S hp su (.java f :: r)).vm.findClass ("[" ++ (newarray.typeOf .int).toString) = some cA := by
    rw [show "[" ++ (newarray.typeOf .int).toString = "[I" from by decide]; exact hc
  have hk1 : (pz_C S hp su (.java f :: r)).vm.classes[cA]? = some k := hk
  have hl : ¬ n.toNatClampNeg > e.platform.arrayLengthLimit := Nat.not_lt.mpr h1
  have hb : ¬ n.toNatClampNeg * componentBytes (newarray.typeOf .int) > e.platform.maxHeapBytes := Nat.not_lt.mpr h2
  have hq1 : (pz_C S hp su (.java f :: r)).heap.size < e.platform.maxCells := h3
  have hq2 : (pz_C S hp su (.java f :: r)).slotsUsed + n.toNatClampNeg ≤ e.platform.maxSlots := h4
  jvm_step X [X.top, hx, hd, newarray.wp_ready (e := e) (s := pz_C S hp su (.java f :: r)) (f := f) (atype := .int) X.top hc1 hk1 hkind hs hn hl hb, hq1, hq2]
  exact a0
theorem pz_new_ok {vm : Vm} {d idx cN : Nat} {ts : Array FieldType} (h : pz_new vm d idx = some (cN, ts)) :
    vm.classReady d idx cN ∧ ∃ k, vm.classes[cN]? = some k ∧ k.kind = .ordinary ∧ k.init = .initialized ∧ (k.isInterface || hasFlag k.accessFlags Acc.abstract) = false ∧ k.name ≠ "java/lang/Class" ∧ k.instanceTypes = ts := by
  unfold pz_new at h
  split at h
  · rename_i kd hkd
    split at h
    · rename_i c' hr
      split at h
      · rename_i k hk
        split at h
        · rename_i h1 h2
          split at h
          · rename_i h3 h4
            cases h
            refine ⟨⟨kd, hkd, hr⟩, k, hk, h1, h2, h3, ?_, rfl⟩
            intro hq
            rw [hq] at h4
            exact absurd h4 (by decide)
          · cases h
        · cases h
      · cases h
    · cases h
  · cases h
theorem pz_newobj_ok (hx : p.tables.exec = Jvm.exec) (hcur : S.cur < S.threads.size) {f : JFrame} {len idx cN : Nat} {ts : Array FieldType} (hd : decode c.code f.pc = .ok (.new idx, len)) (X : At (pz_C S hp su (.java f :: r)) f.method c r)
    (hi : pz_new S.vm f.method.cls idx = some (cN, ts)) (h3 : hp.length < e.platform.maxCells) (h4 : su + ts.size ≤ e.platform.maxSlots) :
    pz_To p e S r c hp su f (hp ++ [{ cls := cN, slots := ts.map defaultValue, vm := .none }], su + ts.size, { f with pc := f.pc + len, stack := .ref hp.length :: f.stack }) := by
  obtain ⟨hr, k, hk, hkind, hini, hcon, hname, hts⟩ := pz_new_ok hi
  subst hts
  have hz : su + k.instanceTypes.size = su + ({ cls := cN, slots := k.instanceTypes.map defaultValue, vm := .none } : Cell).slots.size := by simp
  rw [hz]
  refine pz_ofPush hcur rfl X (fun tg a0 => ?_)
  have hsz : (pz_C S hp su (.java f :: r)).heap.size = hp.length := rfl
  have hr1 : (pz_C S hp su (.java f :: r)).vm.classReady f.method.cls idx cN := hr
  have hk1 : (pz_C S hp su (.java f :: r)).vm.classes[cN]? = some k := hk
  have hq1 : (pz_C S hp su (.java f :: r)).heap.size < e.platform.maxCells := h3
  have hq2 : (pz_C S hp su (.java f :: r)).slotsUsed + k.instanceTypes.size ≤ e.platform.maxSlots := h4
  jvm_step X [X.top, hx, hd, new.wp_ready (e := e) (s := pz_C S hp su (.java f :: r)) (f := f) X.top hr1 hk1 hkind hini hcon hname, hq1, hq2]
  exact a0
theorem pz_h1_ok (hx : p.tables.exec = Jvm.exec) (hcur : S.cur < S.threads.size) {f : JFrame} {i : Instr} {len : Nat} {q : pz_R} (hd : decode c.code f.pc = .ok (i, len)) (X : At (pz_C S hp su (.java f :: r)) f.method c r)
    (h1 : pz_h1 S.vm e.platform i len hp su f = some q) : pz_To p e S r c hp su f q := by
  unfold pz_h1 at h1
  split at h1
  case h_1 idx =>
    split at h1
    · rename_i a st hs
      split at h1
      · rename_i slot ty fin hi
        rw [pz_q2_eq] at hi
        split at h1
        · rename_i cl0 hc
          split at h1
          · rename_i hv
            split at h1
            · rename_i x hg
              rw [pz_next_some h1]
              exact pz_getfield_ok hx hcur hd X hs hi hc hv hg
            · rename_i x hg
              rw [pz_next_some h1]
              exact pz_getfield_ok hx hcur hd X hs hi hc hv hg
            · rename_i hg
              rw [pz_next_some h1]
              exact pz_getfield_ok hx hcur hd X hs hi hc hv hg
            · cases h1
          · cases h1
        · cases h1
      · cases h1
    · cases h1
  case h_2 idx =>
    split at h1
    · rename_i x a st hs
      split at h1
      · rename_i slot ty hi
        rw [pz_q2_eq] at hi
        split at h1
        · rename_i cl0 hc
          split at h1
          · rename_i hv
            split at h1
            · rename_i v hg
              split at h1
              · rename_i hfit
                rw [pz_next_some h1]
                exact pz_putfield_ok hx hcur hd X hs hi hc hv hg hfit
              · cases h1
            · cases h1
          · cases h1
        · cases h1
      · cases h1
    · cases h1
  case h_3 idx =>
    split at h1
    · rename_i a slot hi
      rw [pz_q2_eq] at hi
      split at h1
      · rename_i cl0 hc
        split at h1
        · rename_i q0 hv
          split at h1
          · rename_i x hg
            rw [pz_next_some h1]
            exact pz_getstatic_ok hx hcur hd X hi hc hv hg
          · cases h1
        · cases h1
      · cases h1
    · cases h1
  case h_4 =>
    split at h1
    · rename_i j a st hs
      split at h1
      · rename_i cl0 hc
        split at h1
        · rename_i hv
          split at h1
          · rename_i hi
            split at h1
            · cases h1
            · rename_i hj
              split at h1
              · rename_i x hg
                rw [pz_next_some h1]
                exact pz_iaload_ok hx hcur hd X hs hc hv hi hj hg
              · cases h1
          · cases h1
        · cases h1
      · cases h1
    · cases h1
  case h_5 =>
    split at h1
    · rename_i x j a st hs
      split at h1
      · rename_i cl0 hc
        split at h1
        · rename_i hv
          split at h1
          · rename_i hi
            split at h1
            · cases h1
            · rename_i hj
              split at h1
              · rename_i v hg
                rw [pz_n_eq] at h1
                rw [pz_next_some h1]
                exact pz_iastore_ok hx hcur hd X hs hc hv hi hj hg
              · cases h1
          · cases h1
        · cases h1
      · cases h1
    · cases h1
  case h_6 =>
    split at h1
    · rename_i a st hs
      split at h1
      · rename_i cl0 hc
        split at h1
        · rename_i hv
          split at h1
          · rename_i hi
            rw [pz_i_eq] at h1
            rw [pz_next_some h1]
            exact pz_length_ok hx hcur hd X hs hc hv hi
          · cases h1
        · cases h1
      · cases h1
    · cases h1
  case h_7 =>
    split at h1
    · rename_i n st hs
      split at h1
      · rename_i cA hi
        split at h1
        · cases h1
        · rename_i hn
          rw [pz_n_eq, pz_n_eq] at h1
          split at h1
          · rename_i g1 g2 g3 g4
            rw [pz_n_eq] at h1
            rw [pz_next_some h1]
            exact pz_newarr_ok hx hcur hd X hs hi hn (Nat.le_of_ble_eq_true g1) (Nat.le_of_ble_eq_true g2) (Nat.le_of_ble_eq_true g3) (Nat.le_of_ble_eq_true g4)
          · cases h1
      · cases h1
    · cases h1
  case h_8 idx =>
    split at h1
    · rename_i cN ts hi
      rw [pz_q2_eq] at hi
      rw [pz_n_eq] at h1
      split at h1
      · rename_i g3 g4
        rw [pz_n_eq] at h1
        rw [pz_next_some h1]
        exact pz_newobj_ok hx hcur hd X hi (Nat.le_of_ble_eq_true g3) (Nat.le_of_ble_eq_true g4)
      · cases h1
    · cases h1
  case h_9 => cases h1
end PZ4
/-! ===== END ===== -/
