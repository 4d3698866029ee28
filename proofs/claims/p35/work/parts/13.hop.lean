/-! ===== heap and calls as values ===== -/
noncomputable def pz_hop (vm : Vm) (pl : Platform) (d : Nat) (i : Instr) (len : Nat) : Option (List Cell → Nat → JFrame → Option pz_R) := match i with
  | .getfield idx => match pz_inst vm d idx with
    | some (slot, _, _) => some fun hp su f => match f.stack with
      | .ref a :: r => match pz_at hp a with
        | some cl0 => match cl0.vm with
          | .none => match pz_at cl0.slots.toList slot with
            | some (.int x) => pz_next hp su f len (.int x :: r)
            | some (.ref x) => pz_next hp su f len (.ref x :: r)
            | some .null => pz_next hp su f len (.null :: r)
            | _ => none
          | _ => none
        | none => none
      | _ => none
    | none => none
  | .putfield idx => match pz_inst vm d idx with
    | some (slot, ty, false) => some fun hp su f => match f.stack with
      | x :: .ref a :: r => match pz_at hp a with
        | some cl0 => match cl0.vm with
          | .none => match pz_at cl0.slots.toList slot with
            | some _ => match pz_fits vm cl0.cls slot (narrow ty x) with
              | true => pz_next (pz_set hp a (pz_cs cl0 slot (narrow ty x))) su f len r
              | false => none
            | none => none
          | _ => none
        | none => none
      | _ => none
    | _ => none
  | .getstatic idx => match pz_stat vm d idx with
    | some (a, slot) => some fun hp su f => match pz_at hp a with
      | some cl0 => match cl0.vm with
        | .statics _ => match pz_at cl0.slots.toList slot with
          | some (.ref x) => pz_next hp su f len (.ref x :: f.stack)
          | _ => none
        | _ => none
      | none => none
    | none => none
  | .iaload => some fun hp su f => match f.stack with
    | .int j :: .ref a :: r => match pz_at hp a with
      | some cl0 => match cl0.vm with
        | .none => match pz_ints vm cl0.cls with
          | true => if j < 0 then none else match pz_at cl0.slots.toList (j.toNatClampNeg) with
            | some (.int x) => pz_next hp su f len (.int x :: r)
            | _ => none
          | false => none
        | _ => none
      | none => none
    | _ => none
  | .iastore => some fun hp su f => match f.stack with
    | .int x :: .int j :: .ref a :: r => match pz_at hp a with
      | some cl0 => match cl0.vm with
        | .none => match pz_ints vm cl0.cls with
          | true => if j < 0 then none else match pz_at cl0.slots.toList (j.toNatClampNeg) with
            | some _ => pz_n j.toNatClampNeg fun j => pz_next (pz_set hp a (pz_cs cl0 j (.int x))) su f len r
            | _ => none
          | false => none
        | _ => none
      | none => none
    | _ => none
  | .arraylength => some fun hp su f => match f.stack with
    | .ref a :: r => match pz_at hp a with
      | some cl0 => match cl0.vm with
        | .none => match pz_ints vm cl0.cls with
          | true => pz_i cl0.slots.size.toInt32 fun x => pz_next hp su f len (.int x :: r)
          | false => none
        | _ => none
      | none => none
    | _ => none
  | .newarray .int => match pz_intArr vm with
    | some c => some fun hp su f => match f.stack with
      | .int n :: r => if n < 0 then none else pz_n n.toNatClampNeg fun m => pz_n hp.length fun q => match Nat.ble m pl.arrayLengthLimit, Nat.ble (m * 4) pl.maxHeapBytes, Nat.blt q pl.maxCells, Nat.ble (su + m) pl.maxSlots with
        | true, true, true, true => pz_n (su + m) fun su' => pz_next (hp ++ [{ cls := c, slots := ⟨List.replicate m (.int 0)⟩, vm := .none }]) su' f len (.ref q :: r)
        | _, _, _, _ => none
      | _ => none
    | none => none
  | .new idx => match pz_new vm d idx with
    | some (c, ts) => some fun hp su f => pz_n hp.length fun q => match Nat.blt q pl.maxCells, Nat.ble (su + ts.size) pl.maxSlots with
      | true, true => pz_n (su + ts.size) fun su' => pz_next (hp ++ [{ cls := c, slots := ts.map defaultValue, vm := .none }]) su' f len (.ref q :: f.stack)
      | _, _ => none
    | none => none
  | _ => none
theorem pz_toList {α : Type} (xs : Array α) (i : Nat) : pz_at xs.toList i = xs[i]? := (pz_at_eq _ _).trans (Array.getElem?_toList ..)
section PZ9
variable {p : Program} {e : Env} {r : List Frame} {S : State} {c : Code} {hp : List Cell} {su : Nat}
theorem pz_hop_ok (hx : p.tables.exec = Jvm.exec) (hcur : S.cur < S.threads.size) {f : JFrame} {i : Instr} {len : Nat} {q : pz_R} {g : List Cell → Nat → JFrame → Option pz_R} (hd : decode c.code f.pc = .ok (i, len)) (X : At (pz_C S hp su (.java f :: r)) f.method c r)
    (h0 : pz_hop S.vm e.platform f.method.cls i len = some g) (h1 : g hp su f = some q) : pz_To p e S r c hp su f q := by
  unfold pz_hop at h0
  split at h0
  case h_1 idx =>
    split at h0
    · rename_i slot ty fin hi
      cases h0
      dsimp only at h1
      split at h1
      · rename_i a st hs
        rw [pz_at_eq] at h1
        split at h1
        · rename_i cl0 hc
          split at h1
          · rename_i hv
            rw [pz_toList] at h1
            split at h1
            · rename_i x hg
              rw [pz_next_some h1]
              exact pz_getfield_ok hx hcur hd X hs hi hc hv hg
            · rename_i x hg
              rw [pz_next_some h1]
              exact pz_getfield_ok hx hcur hd X hs hi hc hv hg
            · rename_i hg
              rw [pz_next_some h1]
              exact pz_getfield_ok hx hcur hd X hs hi hc hv hg
            · cases h1
          · cases h1
        · cases h1
      · cases h1
    · cases h0
  case h_2 idx =>
    split at h0
    · rename_i slot ty hi
      cases h0
      dsimp only at h1
      split at h1
      · rename_i x a st hs
        rw [pz_at_eq] at h1
        split at h1
        · rename_i cl0 hc
          split at h1
          · rename_i hv
            rw [pz_toList] at h1
            split at h1
            · rename_i v hg
              split at h1
              · rename_i hfit
                rw [pz_next_some h1, pz_set_eq, pz_cs_eq]
                exact pz_putfield_ok hx hcur hd X hs hi hc hv hg hfit
              · cases h1
            · cases h1
          · cases h1
        · cases h1
      · cases h1
    · cases h0
  case h_3 idx =>
    split at h0
    · rename_i a slot hi
      cases h0
      dsimp only at h1
      rw [pz_at_eq] at h1
      split at h1
      · rename_i cl0 hc
        split at h1
        · rename_i q0 hv
          rw [pz_toList] at h1
          split at h1
          · rename_i x hg
            rw [pz_next_some h1]
            exact pz_getstatic_ok hx hcur hd X hi hc hv hg
          · cases h1
        · cases h1
      · cases h1
    · cases h0
  case h_4 =>
    cases h0
    dsimp only at h1
    split at h1
    · rename_i j a st hs
      rw [pz_at_eq] at h1
      split at h1
      · rename_i cl0 hc
        split at h1
        · rename_i hv
          split at h1
          · rename_i hi
            split at h1
            · cases h1
            · rename_i hj
              rw [pz_toList] at h1
              split at h1
              · rename_i x hg
                rw [pz_next_some h1]
                exact pz_iaload_ok hx hcur hd X hs hc hv hi hj hg
              · cases h1
          · cases h1
        · cases h1
      · cases h1
    · cases h1
  case h_5 =>
    cases h0
    dsimp only at h1
    split at h1
    · rename_i x j a st hs
      rw [pz_at_eq] at h1
      split at h1
      · rename_i cl0 hc
        split at h1
        · rename_i hv
          split at h1
          · rename_i hi
            split at h1
            · cases h1
            · rename_i hj
              rw [pz_toList] at h1
              split at h1
              · rename_i v hg
                rw [pz_n_eq] at h1
                rw [pz_next_some h1, pz_set_eq, pz_cs_eq]
                exact pz_iastore_ok hx hcur hd X hs hc hv hi hj hg
              · cases h1
          · cases h1
        · cases h1
      · cases h1
    · cases h1
  case h_6 =>
    cases h0
    dsimp only at h1
    split at h1
    · rename_i a st hs
      rw [pz_at_eq] at h1
      split at h1
      · rename_i cl0 hc
        split at h1
        · rename_i hv
          split at h1
          · rename_i hi
            rw [pz_i_eq] at h1
            rw [pz_next_some h1]
            exact pz_length_ok hx hcur hd X hs hc hv hi
          · cases h1
        · cases h1
      · cases h1
    · cases h1
  case h_7 =>
    split at h0
    · rename_i cA hi
      cases h0
      dsimp only at h1
      split at h1
      · rename_i n st hs
        split at h1
        · cases h1
        · rename_i hn
          rw [pz_n_eq, pz_n_eq] at h1
          split at h1
          · rename_i g1 g2 g3 g4
            rw [pz_n_eq] at h1
            rw [pz_next_some h1]
            exact pz_newarr_ok hx hcur hd X hs hi hn (Nat.le_of_ble_eq_true g1) (Nat.le_of_ble_eq_true g2) (Nat.le_of_ble_eq_true g3) (Nat.le_of_ble_eq_true g4)
          · cases h1
      · cases h1
    · cases h0
  case h_8 idx =>
    split at h0
    · rename_i cN ts hi
      cases h0
      dsimp only at h1
      rw [pz_n_eq] at h1
      split at h1
      · rename_i g3 g4
        rw [pz_n_eq] at h1
        rw [pz_next_some h1]
        exact pz_newobj_ok hx hcur hd X hi (Nat.le_of_ble_eq_true g3) (Nat.le_of_ble_eq_true g4)
      · cases h1
    · cases h0
  case h_9 => cases h0
end PZ9
/-! ===== the words of the frames below, the locals of a new frame ===== -/
noncomputable def pz_use (r : List Frame) : Nat := List.rec (motive := fun _ => Nat) 0 (fun x _ ih => ih + (match x with
  | .java f => f.locals.size + 11 + 2 * f.monitorRoom + operandWords f.stack
  | x => x.words)) r
theorem pz_use_eq (r : List Frame) : pz_use r = (stackUse r).2 := by
  induction r with
  | nil => rfl
  | cons x r ih =>
    have h : pz_use (x :: r) = pz_use r + (match x with
      | .java f => f.locals.size + 11 + 2 * f.monitorRoom + operandWords f.stack
      | x => x.words) := rfl
    rw [h, ih]
    cases x <;> first | (rw [stackUse_java]) | (rw [stackUse_other _ _ (by intro f h; cases h)])
noncomputable def pz_lo (l : List Value) : Nat → List Slot := List.rec (motive := fun _ => Nat → List Slot) (fun n => List.replicate n .unset) (fun v _ ih n => .val v :: ih (n - 1)) l
theorem pz_lo_eq (l : List Value) : ∀ n, pz_lo l n = l.map Slot.val ++ List.replicate (n - l.length) .unset := by
  induction l with
  | nil => intro n; rfl
  | cons v l ih =>
    intro n
    have h : pz_lo (v :: l) n = .val v :: pz_lo l (n - 1) := rfl
    rw [h, ih, List.map_cons, List.cons_append, List.length_cons, Nat.sub_sub, Nat.add_comm 1]
def pz_k1 (v : Value) (b : Bool) : Bool := match v with
  | .int _ => b
  | .ref _ => b
  | _ => false
noncomputable def pz_c1 (l : List Value) : Bool := List.rec (motive := fun _ => Bool) true (fun v _ ih => pz_k1 v ih) l
theorem pz_c1_ok (l : List Value) (h : pz_c1 l = true) : ∀ v ∈ l, v.category = 1 := by
  induction l with
  | nil => intro v hv; cases hv
  | cons a l ih =>
    have h2 : pz_k1 a (pz_c1 l) = true := h
    intro v hv
    cases a <;> first | cases h2 | (rcases List.mem_cons.mp hv with rfl | hv <;> first | rfl | exact ih h2 v hv)
theorem pz_locs_eq (l : List Value) (n : Nat) (h : pz_c1 l = true) : argsToLocals l.toArray n = ⟨pz_lo l n⟩ := by
  have e := entry_fold l (pz_c1_ok l h) #[]
  rw [pz_lo_eq]
  simp only [argsToLocals, List.foldl_toArray, e]
  simp
noncomputable def pz_enter2 (pl : Platform) (f : JFrame) (r : List Frame) (m : MethodId) (L : Nat) (args st : List Value) : Option (List Frame) := match pz_c1 args, Nat.blt (r.length + 1) pl.maxFrames with
  | true, true => match Nat.ble (pz_use r + (f.locals.size + 11 + 2 * f.monitorRoom + operandWords st) + L + 11) pl.maxStackSlots with
    | true => some (.java { method := m, pc := 0, locals := ⟨pz_lo args L⟩, stack := [], locked := none } :: .java { f with stack := st } :: r)
    | false => none
  | _, _ => none
theorem pz_enter2_ok {pl : Platform} {f : JFrame} {r fs : List Frame} {m : MethodId} {L : Nat} {args st : List Value} (h : pz_enter2 pl f r m L args st = some fs) : pz_enter pl f r m L args st = some fs := by
  unfold pz_enter2 at h
  split at h
  · rename_i h1 h2
    split at h
    · rename_i h3
      cases h
      have h4 : pz_room pl (.java { f with stack := st } :: r) L = true := by
        unfold pz_room
        rw [List.length_cons, h2, stackUse_java, ← pz_use_eq]
        exact h3
      unfold pz_enter
      rw [h4, pz_locs_eq _ _ h1]
    · cases h
  · cases h
/-! ===== END ===== -/
