/-! ===== instructions that read and write the heap ===== -/
/-- a state by its heap, its book of slots and its frames; the rest is S's -/
def pz_C (S : State) (hp : List Cell) (su : Nat) (fs : List Frame) : State := ({ S with heap := ⟨hp⟩, slotsUsed := su } : State).setFrames fs
theorem pz_C_frames {S : State} {hp : List Cell} {su : Nat} {fs : List Frame} (h : S.cur < S.threads.size) : (pz_C S hp su fs).frames = fs := State.frames_setFrames fs (s := { S with heap := ⟨hp⟩, slotsUsed := su }) h
theorem pz_C_top {S : State} {hp : List Cell} {su : Nat} {f g : JFrame} {r : List Frame} (h : S.cur < S.threads.size) : (pz_C S hp su (.java f :: r)).setTop g = pz_C S hp su (.java g :: r) := by
  rw [State.setTop_of_frames g (pz_C_frames h)]
  exact State.setFrames_setFrames _ _ _
theorem pz_C_setCell (S : State) (hp : List Cell) (su : Nat) (fs : List Frame) (a : Addr) (x : Cell) : (pz_C S hp su fs).setCell a x = pz_C S (hp.set a x) su fs := by
  have h : (⟨hp⟩ : Array Cell).setIfInBounds a x = ⟨hp.set a x⟩ := List.setIfInBounds_toArray ..
  show ({ (({ S with heap := ⟨hp⟩, slotsUsed := su } : State).setFrames fs) with heap := (⟨hp⟩ : Array Cell).setIfInBounds a x } : State) = _
  rw [h]
  rfl
theorem pz_C_pushCell (S : State) (hp : List Cell) (su : Nat) (fs : List Frame) (x : Cell) : (pz_C S hp su fs).pushCell x = pz_C S (hp ++ [x]) (su + x.slots.size) fs := by
  have h : (⟨hp⟩ : Array Cell).push x = ⟨hp ++ [x]⟩ := List.push_toArray ..
  show ({ (({ S with heap := ⟨hp⟩, slotsUsed := su } : State).setFrames fs) with heap := (⟨hp⟩ : Array Cell).push x, slotsUsed := su + x.slots.size } : State) = _
  rw [h]
  rfl
theorem pz_C_get (S : State) (hp : List Cell) (su : Nat) (fs : List Frame) (a : Addr) : (pz_C S hp su fs).heap[a]? = hp[a]? := List.getElem?_toArray ..
def pz_fld (vm : Vm) (d idx : Nat) : Option (Nat × Field) := match vm.classes[d]? with
  | some k => match k.resolved[idx]? with
    | some (some (.field c i)) => match vm.classes[c]? with
      | some kc => match kc.fields[i]? with
        | some fd => some (c, fd)
        | none => none
      | none => none
    | _ => none
  | none => none
theorem pz_fld_ok {vm : Vm} {d idx c : Nat} {fd : Field} (h : pz_fld vm d idx = some (c, fd)) : vm.fieldReady d idx c fd := by
  unfold pz_fld at h
  split at h
  · rename_i k hk
    split at h
    · rename_i c' i hr
      split at h
      · rename_i kc hkc
        split at h
        · rename_i fd' hf
          cases h
          exact ⟨k, i, kc, hk, hr, hkc, hf⟩
        · cases h
      · cases h
    · cases h
  · cases h
/-- an instance field's place, its type, if it may be put -/
def pz_inst (vm : Vm) (d idx : Nat) : Option (Nat × FieldType × Bool) := match pz_fld vm d idx with
  | some (_, fd) => match fd.isStatic with
    | false => some (fd.slot, fd.type, hasFlag fd.accessFlags Acc.final)
    | true => none
  | none => none
/-- a static field's cell and place -/
def pz_stat (vm : Vm) (d idx : Nat) : Option (Nat × Nat) := match pz_fld vm d idx with
  | some (c, fd) => match fd.isStatic with
    | true => match vm.classes[c]? with
      | some k => match k.init, k.statics with
        | .initialized, some a => some (a, fd.slot)
        | _, _ => none
      | none => none
    | false => none
  | none => none
/-- the class of an array of ints -/
def pz_ints (vm : Vm) (c : Nat) : Bool := match vm.classes[c]? with
  | some k => match k.kind with
    | .array _ .int => true
    | _ => false
  | none => false
theorem pz_ints_ok {vm : Vm} {c : Nat} (h : pz_ints vm c = true) : ∃ k, vm.classes[c]? = some k ∧ ∃ comp, k.kind = .array comp .int := by
  unfold pz_ints at h
  split at h
  · rename_i k hk
    split at h
    · rename_i comp hkind
      exact ⟨k, hk, comp, hkind⟩
    · cases h
  · cases h
/-- the class '[I' -/
def pz_intArr (vm : Vm) : Option Nat := match vm.findClass "[I" with
  | some c => match pz_ints vm c with
    | true => some c
    | false => none
  | none => none
/-- a class that may be made: its number and the types of its slots -/
def pz_new (vm : Vm) (d idx : Nat) : Option (Nat × Array FieldType) := match vm.classes[d]? with
  | some kd => match kd.resolved[idx]? with
    | some (some (.cls c)) => match vm.classes[c]? with
      | some k => match k.kind, k.init with
        | .ordinary, .initialized => match k.isInterface || hasFlag k.accessFlags Acc.abstract, k.name == "java/lang/Class" with
          | false, false => some (c, k.instanceTypes)
          | _, _ => none
        | _, _ => none
      | none => none
    | _ => none
  | none => none
def pz_q2 {β : Type} (a b : Nat) (k : Nat → Nat → β) : β := pz_n a fun a => pz_n b fun b => k a b
theorem pz_q2_eq {β : Type} (a b : Nat) (k : Nat → Nat → β) : pz_q2 a b k = k a b := by unfold pz_q2; rw [pz_n_eq, pz_n_eq]
def pz_fits (vm : Vm) (c : Nat) (i : Nat) (v : Value) : Bool := State.fitsSlot ({ vm := vm } : State) c .none i v
abbrev pz_R : Type := List Cell × Nat × JFrame
def pz_next (hp : List Cell) (su : Nat) (f : JFrame) (len : Nat) (st : List Value) : Option pz_R := pz_n (f.pc + len) fun pc => some (hp, su, { f with pc := pc, stack := st })
/-- one instruction that reads or writes the heap -/
def pz_h1 (vm : Vm) (pl : Platform) (i : Instr) (len : Nat) (hp : List Cell) (su : Nat) (f : JFrame) : Option pz_R := match i with
  | .getfield idx => match f.stack with
    | .ref a :: r => match pz_q2 f.method.cls idx fun d j => pz_inst vm d j with
      | some (slot, _, _) => match hp[a]? with
        | some cl0 => match cl0.vm with
          | .none => match cl0.slots[slot]? with
            | some (.int x) => pz_next hp su f len (.int x :: r)
            | some (.ref x) => pz_next hp su f len (.ref x :: r)
            | some .null => pz_next hp su f len (.null :: r)
            | _ => none
          | _ => none
        | none => none
      | none => none
    | _ => none
  | .putfield idx => match f.stack with
    | x :: .ref a :: r => match pz_q2 f.method.cls idx fun d j => pz_inst vm d j with
      | some (slot, ty, false) => match hp[a]? with
        | some cl0 => match cl0.vm with
          | .none => match cl0.slots[slot]? with
            | some _ => match pz_fits vm cl0.cls slot (narrow ty x) with
              | true => pz_next (hp.set a (cl0.setSlot slot (narrow ty x))) su f len r
              | false => none
            | none => none
          | _ => none
        | none => none
      | _ => none
    | _ => none
  | .getstatic idx => match pz_q2 f.method.cls idx fun d j => pz_stat vm d j with
    | some (a, slot) => match hp[a]? with
      | some cl0 => match cl0.vm with
        | .statics _ => match cl0.slots[slot]? with
          | some (.ref x) => pz_next hp su f len (.ref x :: f.stack)
          | _ => none
        | _ => none
      | none => none
    | none => none
  | .iaload => match f.stack with
    | .int j :: .ref a :: r => match hp[a]? with
      | some cl0 => match cl0.vm with
        | .none => match pz_ints vm cl0.cls with
          | true => if j < 0 then none else match cl0.slots[j.toNatClampNeg]? with
            | some (.int x) => pz_next hp su f len (.int x :: r)
            | _ => none
          | false => none
        | _ => none
      | none => none
    | _ => none
  | .iastore => match f.stack with
    | .int x :: .int j :: .ref a :: r => match hp[a]? with
      | some cl0 => match cl0.vm with
        | .none => match pz_ints vm cl0.cls with
          | true => if j < 0 then none else match cl0.slots[j.toNatClampNeg]? with
            | some _ => pz_n j.toNatClampNeg fun j => pz_next (hp.set a (cl0.setSlot j (.int x))) su f len r
            | _ => none
          | false => none
        | _ => none
      | none => none
    | _ => none
  | .arraylength => match f.stack with
    | .ref a :: r => match hp[a]? with
      | some cl0 => match cl0.vm with
        | .none => match pz_ints vm cl0.cls with
          | true => pz_i cl0.slots.size.toInt32 fun x => pz_next hp su f len (.int x :: r)
          | false => none
        | _ => none
      | none => none
    | _ => none
  | .newarray .int => match f.stack with
    | .int n :: r => match pz_intArr vm with
      | some c => if n < 0 then none else pz_n n.toNatClampNeg fun m => pz_n hp.length fun q => match Nat.ble m pl.arrayLengthLimit, Nat.ble (m * 4) pl.maxHeapBytes, Nat.blt q pl.maxCells, Nat.ble (su + m) pl.maxSlots with
        | true, true, true, true => pz_n (su + m) fun su' => pz_next (hp ++ [{ cls := c, slots := ⟨List.replicate m (.int 0)⟩, vm := .none }]) su' f len (.ref q :: r)
        | _, _, _, _ => none
      | none => none
    | _ => none
  | .new idx => match pz_q2 f.method.cls idx fun d j => pz_new vm d j with
    | some (c, ts) => pz_n hp.length fun q => match Nat.blt q pl.maxCells, Nat.ble (su + ts.size) pl.maxSlots with
      | true, true => pz_n (su + ts.size) fun su' => pz_next (hp ++ [{ cls := c, slots := ts.map defaultValue, vm := .none }]) su' f len (.ref q :: f.stack)
      | _, _ => none
    | none => none
  | _ => none
/-! ===== END ===== -/
