/-! ===== they do what they say ===== -/
section PZ3
variable {p : Program} {e : Env} {r : List Frame} {S tg : State} {c : Code} {hp hp' : List Cell} {su su' : Nat}
/-- one step, from a configuration to the next -/
def pz_To (p : Program) (e : Env) (S : State) (r : List Frame) (c : Code) (hp : List Cell) (su : Nat) (f : JFrame) (q : pz_R) : Prop :=
  q.2.2.method = f.method ∧ At (pz_C S q.1 q.2.1 (.java q.2.2 :: r)) f.method c r ∧ ∀ tg, Steps p.tables e r (pz_C S q.1 q.2.1 (.java q.2.2 :: r)) tg → Steps p.tables e r (pz_C S hp su (.java f :: r)) tg
theorem pz_At {f : JFrame} {g : JFrame} {m : MethodId} (hcur : S.cur < S.threads.size) (X : At (pz_C S hp su (.java f :: r)) m c r) : At (pz_C S hp' su' (.java g :: r)) m c r := by
  obtain ⟨h1, h2, h3, h4, h5, h6, h7⟩ := X
  refine ⟨?_, ⟨[], ?_⟩, h3, ?_, ?_, h6, h7⟩
  · rw [State.topJava?_of_frames (pz_C_frames hcur)]; rfl
  · rw [pz_C_frames hcur]; rfl
  · have a1 : (pz_C S hp' su' (.java g :: r)).curStatus? = ({ S with heap := ⟨hp'⟩, slotsUsed := su' } : State).curStatus? := by unfold pz_C; simp
    have a2 : (pz_C S hp su (.java f :: r)).curStatus? = ({ S with heap := ⟨hp⟩, slotsUsed := su } : State).curStatus? := by unfold pz_C; simp
    rw [a1]; rw [a2] at h4; exact h4
  · have a1 : (pz_C S hp' su' (.java g :: r)).alone = ({ S with heap := ⟨hp'⟩, slotsUsed := su' } : State).alone := State.alone_setFrames _ _
    have a2 : (pz_C S hp su (.java f :: r)).alone = ({ S with heap := ⟨hp⟩, slotsUsed := su } : State).alone := State.alone_setFrames _ _
    rw [a1]; rw [a2] at h5; exact h5
theorem pz_ofTop {f f' : JFrame} (hcur : S.cur < S.threads.size) (hm : f'.method = f.method) (X : At (pz_C S hp su (.java f :: r)) f.method c r)
    (h : ∀ tg, Steps p.tables e r ((pz_C S hp su (.java f :: r)).setTop f') tg → Steps p.tables e r ((pz_C S hp su (.java f :: r)).setTop f) tg) : pz_To p e S r c hp su f (hp, su, f') := by
  refine ⟨hm, pz_At hcur X, fun tg a => ?_⟩
  have := h tg
  rw [pz_C_top hcur, pz_C_top hcur] at this
  exact this a
theorem pz_ofCell {f f' : JFrame} {a : Nat} {x : Cell} (hcur : S.cur < S.threads.size) (hm : f'.method = f.method) (X : At (pz_C S hp su (.java f :: r)) f.method c r)
    (h : ∀ tg, Steps p.tables e r (((pz_C S hp su (.java f :: r)).setCell a x).setTop f') tg → Steps p.tables e r ((pz_C S hp su (.java f :: r)).setTop f) tg) : pz_To p e S r c hp su f (hp.set a x, su, f') := by
  refine ⟨hm, pz_At hcur X, fun tg a => ?_⟩
  have := h tg
  rw [pz_C_setCell, pz_C_top hcur, pz_C_top hcur] at this
  exact this a
theorem pz_ofPush {f f' : JFrame} {x : Cell} (hcur : S.cur < S.threads.size) (hm : f'.method = f.method) (X : At (pz_C S hp su (.java f :: r)) f.method c r)
    (h : ∀ tg, Steps p.tables e r (((pz_C S hp su (.java f :: r)).pushCell x).setTop f') tg → Steps p.tables e r ((pz_C S hp su (.java f :: r)).setTop f) tg) : pz_To p e S r c hp su f (hp ++ [x], su + x.slots.size, f') := by
  refine ⟨hm, pz_At hcur X, fun tg a => ?_⟩
  have := h tg
  rw [pz_C_pushCell, pz_C_top hcur, pz_C_top hcur] at this
  exact this a
theorem pz_inst_ok {vm : Vm} {d idx slot : Nat} {ty : FieldType} {fin : Bool} (h : pz_inst vm d idx = some (slot, ty, fin)) : ∃ c0 fd, vm.fieldReady d idx c0 fd ∧ fd.isStatic = false ∧ fd.slot = slot ∧ fd.type = ty ∧ hasFlag fd.accessFlags Acc.final = fin := by
  unfold pz_inst at h
  split at h
  · rename_i c0 fd hf
    split at h
    · rename_i hs
      cases h
      exact ⟨c0, fd, pz_fld_ok hf, hs, rfl, rfl, rfl⟩
    · cases h
  · cases h
theorem pz_stat_ok {vm : Vm} {d idx a slot : Nat} (h : pz_stat vm d idx = some (a, slot)) : ∃ c0 fd k, vm.fieldReady d idx c0 fd ∧ fd.isStatic = true ∧ fd.slot = slot ∧ vm.classes[c0]? = some k ∧ k.init = .initialized ∧ k.statics = some a := by
  unfold pz_stat at h
  split at h
  · rename_i c0 fd hf
    split at h
    · rename_i hs
      split at h
      · rename_i k hk
        split at h
        · rename_i a' h1 h2
          cases h
          exact ⟨c0, fd, k, pz_fld_ok hf, hs, rfl, hk, h1, h2⟩
        · cases h
      · cases h
    · cases h
  · cases h
theorem pz_next_some {f : JFrame} {len : Nat} {st : List Value} {q : pz_R} (h : pz_next hp su f len st = some q) : q = (hp, su, { f with pc := f.pc + len, stack := st }) := by
  unfold pz_next at h
  rw [pz_n_eq] at h
  exact (Option.some.inj h).symm
theorem pz_getfield_ok (hx : p.tables.exec = Jvm.exec) (hcur : S.cur < S.threads.size) {f : JFrame} {idx len slot a : Nat} {ty : FieldType} {fin : Bool} {st : List Value} {cl0 : Cell} {v : Value} (hd : decode c.code f.pc = .ok (.getfield idx, len)) (X : At (pz_C S hp su (.java f :: r)) f.method c r)
    (hs : f.stack = .ref a :: st) (hi : pz_inst S.vm f.method.cls idx = some (slot, ty, fin)) (hc : hp[a]? = some cl0) (hv : cl0.vm = .none) (hg : cl0.slots[slot]? = some v) : pz_To p e S r c hp su f (hp, su, { f with pc := f.pc + len, stack := v :: st }) := by
  obtain ⟨c0, fd, hr, hst, rfl, -, -⟩ := pz_inst_ok hi
  refine pz_ofTop hcur rfl X (fun tg a0 => ?_)
  have hc1 : (pz_C S hp su (.java f :: r)).heap[a]? = some cl0 := (pz_C_get ..).trans hc
  have hr1 : (pz_C S hp su (.java f :: r)).vm.fieldReady f.method.cls idx c0 fd := hr
  jvm_step X [X.top, hx, hd, getfield.wp_ready (e := e) (s := pz_C S hp su (.java f :: r)) (f := f) X.top hr1 hst hs hc1 (by rw [hv]; decide) hg]
  exact a0
theorem pz_putfield_ok (hx : p.tables.exec = Jvm.exec) (hcur : S.cur < S.threads.size) {f : JFrame} {idx len slot a : Nat} {ty : FieldType} {st : List Value} {cl0 : Cell} {x v : Value} (hd : decode c.code f.pc = .ok (.putfield idx, len)) (X : At (pz_C S hp su (.java f :: r)) f.method c r)
    (hs : f.stack = x :: .ref a :: st) (hi : pz_inst S.vm f.method.cls idx = some (slot, ty, false)) (hc : hp[a]? = some cl0) (hv : cl0.vm = .none) (hg : cl0.slots[slot]? = some v) (hfit : pz_fits S.vm cl0.cls slot (narrow ty x) = true) :
    pz_To p e S r c hp su f (hp.set a (cl0.setSlot slot (narrow ty x)), su, { f with pc := f.pc + len, stack := st }) := by
  obtain ⟨c0, fd, hr, hst, rfl, rfl, hfin⟩ := pz_inst_ok hi
  refine pz_ofCell hcur rfl X (fun tg a0 => ?_)
  have hc1 : (pz_C S hp su (.java f :: r)).heap[a]? = some cl0 := (pz_C_get ..).trans hc
  have hr1 : (pz_C S hp su (.java f :: r)).vm.fieldReady f.method.cls idx c0 fd := hr
  have hlt : fd.slot < cl0.slots.size := (Array.getElem?_eq_some_iff.mp hg).1
  have hfit1 : (pz_C S hp su (.java f :: r)).fitsSlot cl0.cls cl0.vm fd.slot (narrow fd.type x) = true := by rw [hv]; exact hfit
  jvm_step X [X.top, hx, hd, putfield.wp_ready (e := e) (s := pz_C S hp su (.java f :: r)) (f := f) X.top hr1 hst hfin hs hc1 (by rw [hv]; decide), hlt, hfit1]
  exact a0
theorem pz_getstatic_ok (hx : p.tables.exec = Jvm.exec) (hcur : S.cur < S.threads.size) {f : JFrame} {idx len slot a : Nat} {cl0 : Cell} {v : Value} {q : Nat} (hd : decode c.code f.pc = .ok (.getstatic idx, len)) (X : At (pz_C S hp su (.java f :: r)) f.method c r)
    (hi : pz_stat S.vm f.method.cls idx = some (a, slot)) (hc : hp[a]? = some cl0) (hv : cl0.vm = .statics q) (hg : cl0.slots[slot]? = some v) : pz_To p e S r c hp su f (hp, su, { f with pc := f.pc + len, stack := v :: f.stack }) := by
  obtain ⟨c0, fd, k, hr, hst, rfl, hk, hini, hsta⟩ := pz_stat_ok hi
  refine pz_ofTop hcur rfl X (fun tg a0 => ?_)
  have hc1 : (pz_C S hp su (.java f :: r)).heap[a]? = some cl0 := (pz_C_get ..).trans hc
  have hr1 : (pz_C S hp su (.java f :: r)).vm.fieldReady f.method.cls idx c0 fd := hr
  have hk1 : (pz_C S hp su (.java f :: r)).vm.classes[c0]? = some k := hk
  jvm_step X [X.top, hx, hd, getstatic.wp_ready (e := e) (s := pz_C S hp su (.java f :: r)) (f := f) X.top hr1 hst hk1 hini hsta hc1 (by rw [hv]; intro h; cases h) hg]
  exact a0
theorem pz_isArr {f : JFrame} {cl0 : Cell} (hv : cl0.vm = .none) (hi : pz_ints S.vm cl0.cls = true) : (pz_C S hp su (.java f :: r)).isArrayOf cl0 .int := ⟨fun k h => (by rw [hv] at h; cases h), pz_ints_ok hi⟩
theorem pz_iaload_ok (hx : p.tables.exec = Jvm.exec) (hcur : S.cur < S.threads.size) {f : JFrame} {len a : Nat} {j : Int32} {st : List Value} {cl0 : Cell} {v : Value} (hd : decode c.code f.pc = .ok (.iaload, len)) (X : At (pz_C S hp su (.java f :: r)) f.method c r)
    (hs : f.stack = .int j :: .ref a :: st) (hc : hp[a]? = some cl0) (hv : cl0.vm = .none) (hi : pz_ints S.vm cl0.cls = true) (hj : ¬ j < 0) (hg : cl0.slots[j.toNatClampNeg]? = some v) : pz_To p e S r c hp su f (hp, su, { f with pc := f.pc + len, stack := v :: st }) := by
  refine pz_ofTop hcur rfl X (fun tg a0 => ?_)
  have hc1 : (pz_C S hp su (.java f :: r)).heap[a]? = some cl0 := (pz_C_get ..).trans hc
  have hA := pz_isArr (S := S) (r := r) (hp := hp) (su := su) (f := f) hv hi
  have hA1 := hA.isArray
  have hlt : j.toNatClampNeg < cl0.slots.size := (Array.getElem?_eq_some_iff.mp hg).1
  have hb : ¬ (j < 0 ∨ cl0.slots.size ≤ j.toNatClampNeg) := fun h => h.elim hj (fun h => by omega)
  have hu : cl0.vm ≠ .unknown := by rw [hv]; decide
  jvm_step X [X.top, hx, hd, hs, hc1, hA1, hb, hA.1, hA.2, hu, hg]
  exact a0
theorem pz_iastore_ok (hx : p.tables.exec = Jvm.exec) (hcur : S.cur < S.threads.size) {f : JFrame} {len a : Nat} {x j : Int32} {st : List Value} {cl0 : Cell} {v : Value} (hd : decode c.code f.pc = .ok (.iastore, len)) (X : At (pz_C S hp su (.java f :: r)) f.method c r)
    (hs : f.stack = .int x :: .int j :: .ref a :: st) (hc : hp[a]? = some cl0) (hv : cl0.vm = .none) (hi : pz_ints S.vm cl0.cls = true) (hj : ¬ j < 0) (hg : cl0.slots[j.toNatClampNeg]? = some v) :
    pz_To p e S r c hp su f (hp.set a (cl0.setSlot j.toNatClampNeg (.int x)), su, { f with pc := f.pc + len, stack := st }) := by
  refine pz_ofCell hcur rfl X (fun tg a0 => ?_)
  have hc1 : (pz_C S hp su (.java f :: r)).heap[a]? = some cl0 := (pz_C_get ..).trans hc
  have hA := pz_isArr (S := S) (r := r) (hp := hp) (su := su) (f := f) hv hi
  have hA1 := hA.isArray
  have hlt : j.toNatClampNeg < cl0.slots.size := (Array.getElem?_eq_some_iff.mp hg).1
  have hb : ¬ (j < 0 ∨ cl0.slots.size ≤ j.toNatClampNeg) := fun h => h.elim hj (fun h => by omega)
  have hu : cl0.vm ≠ .unknown := by rw [hv]; decide
  have hfit : (pz_C S hp su (.java f :: r)).fitsSlot cl0.cls cl0.vm j.toNatClampNeg (.int x) = true := by
    obtain ⟨k, hk, comp, hkind⟩ := hA.2
    rw [hv]
    simp [State.fitsSlot, State.slotType?, hk, hkind, fits]
  jvm_step X [X.top, hx, hd, iastore.wp_sem, hs, hc1, hA1, hb, hu, hfit]
  refine ⟨x, j, .ref a, st, ⟨rfl, rfl, rfl, rfl⟩, cl0, hc1, hA1, ?_⟩
  rw [if_neg hb]
  exact ⟨hA, hu, hfit, a0⟩
theorem pz_length_ok (hx : p.tables.exec = Jvm.exec) (hcur : S.cur < S.threads.size) {f : JFrame} {len a : Nat} {st : List Value} {cl0 : Cell} (hd : decode c.code f.pc = .ok (.arraylength, len)) (X : At (pz_C S hp su (.java f :: r)) f.method c r)
    (hs : f.stack = .ref a :: st) (hc : hp[a]? = some cl0) (hv : cl0.vm = .none) (hi : pz_ints S.vm cl0.cls = true) : pz_To p e S r c hp su f (hp, su, { f with pc := f.pc + len, stack := .int cl0.slots.size.toInt32 :: st }) := by
  refine pz_ofTop hcur rfl X (fun tg a0 => ?_)
  have hc1 : (pz_C S hp su (.java f :: r)).heap[a]? = some cl0 := (pz_C_get ..).trans hc
  have hA := pz_isArr (S := S) (r := r) (hp := hp) (su := su) (f := f) hv hi
  have hA1 := hA.isArray
  jvm_step X [X.top, hx, hd, hs, hc1, hA1]
  exact a0
end PZ3
/-! ===== END ===== -/
