/-! ===== the same, as values that an instruction has once for all ===== -/
noncomputable def pz_set {α : Type} (l : List α) (i : Nat) (v : α) : List α := List.rec (motive := fun _ => Nat → List α) (fun _ => []) (fun a t ih n => Nat.rec (motive := fun _ => List α) (v :: t) (fun m _ => a :: ih m) n) l i
theorem pz_set_eq {α : Type} (l : List α) (v : α) : ∀ i, pz_set l i v = l.set i v := by
  induction l with
  | nil => intro i; rfl
  | cons a l ih =>
    intro i
    cases i with
    | zero => rfl
    | succ n => exact congrArg (a :: ·) (ih n)
noncomputable def pz_cs (c : Cell) (i : Nat) (v : Value) : Cell := match c with
  | ⟨h1, h2, h3, h4, h5⟩ => ⟨h1, ⟨pz_set h2.toList i v⟩, h3, h4, h5⟩
theorem pz_cs_eq (c : Cell) (i : Nat) (v : Value) : pz_cs c i v = c.setSlot i v := by
  obtain ⟨h1, ⟨l⟩, h3, h4, h5⟩ := c
  show (⟨h1, ⟨pz_set l i v⟩, h3, h4, h5⟩ : Cell) = ⟨h1, (⟨l⟩ : Array Value).setIfInBounds i v, h3, h4, h5⟩
  rw [pz_set_eq, show (⟨l⟩ : Array Value).setIfInBounds i v = ⟨l.set i v⟩ from List.setIfInBounds_toArray ..]
noncomputable def pz_sto (ls : Array Slot) (i : Nat) (v : Value) : Option (Array Slot) := match ls with
  | ⟨l⟩ => match pz_at l i with
    | some .unset => some ⟨pz_set l i (.val v)⟩
    | some (.val (.int _)) => some ⟨pz_set l i (.val v)⟩
    | some (.val (.ref _)) => some ⟨pz_set l i (.val v)⟩
    | _ => none
theorem pz_sto_self {l : List Slot} {i : Nat} {x : Slot} {v : Value} (hv : v.category = 1) (h : l[i]? = some x) : storeSelf ⟨l⟩ i v = some ⟨pz_set l i (.val v)⟩ := by
  have hlt : i < (⟨l⟩ : Array Slot).size := (List.getElem?_eq_some_iff.mp h).1
  have h2 : (⟨l⟩ : Array Slot).setIfInBounds i (.val v) = ⟨l.set i (.val v)⟩ := List.setIfInBounds_toArray ..
  simp only [storeSelf, setAt, if_pos hlt, h2, pz_set_eq, hv]
  rfl
theorem pz_sto_ok {ls ls' : Array Slot} {i : Nat} {v : Value} (hv : v.category = 1) (h : pz_sto ls i v = some ls') : storeLocals ls i v = some ls' := by
  obtain ⟨l⟩ := ls
  unfold pz_sto at h
  dsimp only at h
  rw [pz_at_eq] at h
  have hg : (⟨l⟩ : Array Slot)[i]? = l[i]? := List.getElem?_toArray ..
  split at h
  · rename_i hx
    cases h
    have := pz_sto_self hv hx
    unfold storeLocals
    rw [hg, hx]
    exact this
  · rename_i y hx
    cases h
    have := pz_sto_self hv hx
    unfold storeLocals
    rw [hg, hx]
    exact this
  · rename_i y hx
    cases h
    have := pz_sto_self hv hx
    unfold storeLocals
    rw [hg, hx]
    exact this
  · cases h
noncomputable def pz_lc (f : JFrame) (k : Nat) : Option Slot := match f.locals with
  | ⟨l⟩ => pz_at l k
theorem pz_lc_eq (f : JFrame) (k : Nat) : pz_lc f k = pz_loc f k := by
  unfold pz_lc pz_loc
  cases f.locals
  exact pz_at_eq _ _
noncomputable def pz_t1 (i : Instr) (len : Nat) : Option (JFrame → Option JFrame) := match i with
  | .iload k => some fun f => match pz_lc f k with
    | some (.val (.int x)) => pz_push f len (.int x)
    | _ => none
  | .iload_n k => some fun f => match pz_lc f k with
    | some (.val (.int x)) => pz_push f len (.int x)
    | _ => none
  | .aload k => some fun f => match pz_lc f k with
    | some (.val (.ref x)) => pz_push f len (.ref x)
    | _ => none
  | .aload_n k => some fun f => match pz_lc f k with
    | some (.val (.ref x)) => pz_push f len (.ref x)
    | _ => none
  | .iconst n => some fun f => pz_i (Int32.ofInt n) fun x => pz_push f len (.int x)
  | .bipush n => some fun f => pz_i (Int8.ofInt n).toInt32 fun x => pz_push f len (.int x)
  | .sipush n => some fun f => pz_i (Int16.ofInt n).toInt32 fun x => pz_push f len (.int x)
  | .iadd => some fun f => match f.stack with
    | .int y :: .int x :: r => pz_i (x + y) fun z => pz_push { f with stack := r } len (.int z)
    | _ => none
  | .isub => some fun f => match f.stack with
    | .int y :: .int x :: r => pz_i (x - y) fun z => pz_push { f with stack := r } len (.int z)
    | _ => none
  | .imul => some fun f => match f.stack with
    | .int y :: .int x :: r => pz_i (x * y) fun z => pz_push { f with stack := r } len (.int z)
    | _ => none
  | .istore k => some fun f => match f.stack with
    | .int x :: r => match pz_sto f.locals k (.int x) with
      | some ls => pz_n (f.pc + len) fun pc => some { f with pc := pc, locals := ls, stack := r }
      | none => none
    | _ => none
  | .istore_n k => some fun f => match f.stack with
    | .int x :: r => match pz_sto f.locals k (.int x) with
      | some ls => pz_n (f.pc + len) fun pc => some { f with pc := pc, locals := ls, stack := r }
      | none => none
    | _ => none
  | .iinc k n => some fun f => match pz_lc f k with
    | some (.val (.int x)) => pz_i (x + Int32.ofInt n) fun z => match pz_sto f.locals k (.int z) with
      | some ls => pz_n (f.pc + len) fun pc => some { f with pc := pc, locals := ls }
      | none => none
    | _ => none
  | .goto off => some fun f => match (f.pc : Int) + off with
    | .ofNat t => pz_n t fun pc => some { f with pc := pc }
    | .negSucc _ => none
  | .if_icmp c off => some fun f => match f.stack with
    | .int y :: .int x :: r => match Op.if_icmp.holds c x y with
      | true => match (f.pc : Int) + off with
        | .ofNat t => pz_n t fun pc => some { f with pc := pc, stack := r }
        | .negSucc _ => none
      | false => pz_n (f.pc + len) fun pc => some { f with pc := pc, stack := r }
    | _ => none
  | .ifCond c off => some fun f => match f.stack with
    | .int x :: r => match Op.ifCond.holds c x with
      | true => match (f.pc : Int) + off with
        | .ofNat t => pz_n t fun pc => some { f with pc := pc, stack := r }
        | .negSucc _ => none
      | false => pz_n (f.pc + len) fun pc => some { f with pc := pc, stack := r }
    | _ => none
  | .dup => some fun f => match f.stack with
    | .int x :: r => pz_push { f with stack := .int x :: r } len (.int x)
    | .ref x :: r => pz_push { f with stack := .ref x :: r } len (.ref x)
    | _ => none
  | .pop => some fun f => match f.stack with
    | .int _ :: r => pz_n (f.pc + len) fun pc => some { f with pc := pc, stack := r }
    | .ref _ :: r => pz_n (f.pc + len) fun pc => some { f with pc := pc, stack := r }
    | _ => none
  | .idiv => some fun f => match f.stack with
    | .int y :: .int x :: r => if y = 0 then none else pz_i (x / y) fun z => pz_push { f with stack := r } len (.int z)
    | _ => none
  | .irem => some fun f => match f.stack with
    | .int y :: .int x :: r => if y = 0 then none else pz_i (x - (x / y) * y) fun z => pz_push { f with stack := r } len (.int z)
    | _ => none
  | .astore k => some fun f => match f.stack with
    | .ref x :: r => match pz_sto f.locals k (.ref x) with
      | some ls => pz_n (f.pc + len) fun pc => some { f with pc := pc, locals := ls, stack := r }
      | none => none
    | _ => none
  | .astore_n k => some fun f => match f.stack with
    | .ref x :: r => match pz_sto f.locals k (.ref x) with
      | some ls => pz_n (f.pc + len) fun pc => some { f with pc := pc, locals := ls, stack := r }
      | none => none
    | _ => none
  | .ifnonnull off => some fun f => match f.stack with
    | .ref _ :: r => match (f.pc : Int) + off with
      | .ofNat t => pz_n t fun pc => some { f with pc := pc, stack := r }
      | .negSucc _ => none
    | .null :: r => pz_n (f.pc + len) fun pc => some { f with pc := pc, stack := r }
    | _ => none
  | _ => none
theorem pz_t1_ok {i : Instr} {len : Nat} {g : JFrame → Option JFrame} {f f' : JFrame} (h : pz_t1 i len = some g) (h1 : g f = some f') : pz_f1 i len f = some f' ∨ pz_f2 i len f = some f' := by
  unfold pz_t1 at h
  split at h
  case h_1 =>
    cases h
    simp only [pz_lc_eq] at h1
    exact Or.inl h1
  case h_2 =>
    cases h
    simp only [pz_lc_eq] at h1
    exact Or.inl h1
  case h_3 =>
    cases h
    simp only [pz_lc_eq] at h1
    exact Or.inl h1
  case h_4 =>
    cases h
    simp only [pz_lc_eq] at h1
    exact Or.inl h1
  case h_5 =>
    cases h
    exact Or.inl h1
  case h_6 =>
    cases h
    exact Or.inl h1
  case h_7 =>
    cases h
    exact Or.inl h1
  case h_8 =>
    cases h
    exact Or.inl h1
  case h_9 =>
    cases h
    exact Or.inl h1
  case h_10 =>
    cases h
    exact Or.inl h1
  case h_11 =>
    cases h
    refine Or.inl ?_
    unfold pz_f1
    dsimp only at h1 ⊢
    split at h1
    · rename_i x r hs
      rw [hs]
      dsimp only
      split at h1
      · rename_i ls hl
        rw [pz_sto_ok rfl hl]
        exact h1
      · cases h1
    · cases h1
  case h_12 =>
    cases h
    refine Or.inl ?_
    unfold pz_f1
    dsimp only at h1 ⊢
    split at h1
    · rename_i x r hs
      rw [hs]
      dsimp only
      split at h1
      · rename_i ls hl
        rw [pz_sto_ok rfl hl]
        exact h1
      · cases h1
    · cases h1
  case h_13 =>
    cases h
    simp only [pz_lc_eq] at h1
    refine Or.inl ?_
    unfold pz_f1
    dsimp only
    split at h1
    · rename_i x hk
      rw [hk]
      rw [pz_i_eq] at h1
      dsimp only
      rw [pz_i_eq]
      split at h1
      · rename_i ls hl
        rw [pz_sto_ok rfl hl]
        exact h1
      · cases h1
    · cases h1
  case h_14 =>
    cases h
    exact Or.inl h1
  case h_15 =>
    cases h
    exact Or.inl h1
  case h_16 =>
    cases h
    exact Or.inl h1
  case h_17 =>
    cases h
    exact Or.inr h1
  case h_18 =>
    cases h
    exact Or.inr h1
  case h_19 =>
    cases h
    exact Or.inr h1
  case h_20 =>
    cases h
    exact Or.inr h1
  case h_21 =>
    cases h
    refine Or.inr ?_
    unfold pz_f2
    dsimp only at h1 ⊢
    split at h1
    · rename_i x r hs
      rw [hs]
      dsimp only
      split at h1
      · rename_i ls hl
        rw [pz_sto_ok rfl hl]
        exact h1
      · cases h1
    · cases h1
  case h_22 =>
    cases h
    refine Or.inr ?_
    unfold pz_f2
    dsimp only at h1 ⊢
    split at h1
    · rename_i x r hs
      rw [hs]
      dsimp only
      split at h1
      · rename_i ls hl
        rw [pz_sto_ok rfl hl]
        exact h1
      · cases h1
    · cases h1
  case h_23 =>
    cases h
    exact Or.inr h1
  case h_24 => cases h
noncomputable def pz_op (b : ByteArray) (pc : Nat) : Option (JFrame → Option JFrame) := match pz_dec b pc with
  | some (i, len) => pz_t1 i len
  | none => none
noncomputable def pz_fast2 (b : ByteArray) : Nat → JFrame → JFrame
  | 0, f => f
  | n + 1, f => match pz_n f.pc fun pc => pz_op b pc with
    | some g => match g f with
      | some f' => pz_fast2 b n f'
      | none => f
    | none => f
section PZ8
variable {p : Program} {e : Env} {below : List Frame} {T tg : State} {c : Code}
theorem pz_fast2_ok (hx : p.tables.exec = Jvm.exec) : ∀ (n : Nat) (f : JFrame), At T f.method c below →
    (pz_fast2 c.code n f).method = f.method ∧ (Steps p.tables e below (T.setTop (pz_fast2 c.code n f)) tg → Steps p.tables e below (T.setTop f) tg) := by
  intro n
  induction n with
  | zero => intro f X; exact ⟨rfl, fun a => a⟩
  | succ n ih =>
    intro f X
    unfold pz_fast2
    rw [pz_n_eq]
    split
    · rename_i g hg
      split
      · rename_i f' h1
        unfold pz_op at hg
        split at hg
        · rename_i i len hd0
          have hd := pz_dec_ok hd0
          have h2 : f'.method = f.method ∧ (Steps p.tables e below (T.setTop (pz_fast2 c.code n f')) tg → Steps p.tables e below (T.setTop f) tg) := by
            rcases pz_t1_ok hg h1 with h3 | h3
            · obtain ⟨m1, s1⟩ := pz_f1_ok (p := p) (e := e) (tg := tg) hx hd h3 X
              exact ⟨m1, fun a => s1 ((ih f' (m1 ▸ X)).2 a)⟩
            · obtain ⟨m1, s1⟩ := pz_f2_ok (p := p) (e := e) (tg := tg) hx hd h3 X
              exact ⟨m1, fun a => s1 ((ih f' (m1 ▸ X)).2 a)⟩
          exact ⟨(ih f' (h2.1 ▸ X)).1.trans h2.1, h2.2⟩
        · cases hg
      · exact ⟨rfl, fun a => a⟩
    · exact ⟨rfl, fun a => a⟩
end PZ8
/-! ===== END ===== -/
