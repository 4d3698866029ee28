/-! ===== more instructions that touch the frame alone ===== -/
def pz_f2 (i : Instr) (len : Nat) (f : JFrame) : Option JFrame := match i with
  | .dup => match f.stack with
    | .int x :: r => pz_push { f with stack := .int x :: r } len (.int x)
    | .ref x :: r => pz_push { f with stack := .ref x :: r } len (.ref x)
    | _ => none
  | .pop => match f.stack with
    | .int _ :: r => pz_n (f.pc + len) fun pc => some { f with pc := pc, stack := r }
    | .ref _ :: r => pz_n (f.pc + len) fun pc => some { f with pc := pc, stack := r }
    | _ => none
  | .idiv => match f.stack with
    | .int y :: .int x :: r => if y = 0 then none else pz_i (x / y) fun z => pz_push { f with stack := r } len (.int z)
    | _ => none
  | .irem => match f.stack with
    | .int y :: .int x :: r => if y = 0 then none else pz_i (x - (x / y) * y) fun z => pz_push { f with stack := r } len (.int z)
    | _ => none
  | .astore k => match f.stack with
    | .ref x :: r => match storeLocals f.locals k (.ref x) with
      | some ls => pz_n (f.pc + len) fun pc => some { f with pc := pc, locals := ls, stack := r }
      | none => none
    | _ => none
  | .astore_n k => match f.stack with
    | .ref x :: r => match storeLocals f.locals k (.ref x) with
      | some ls => pz_n (f.pc + len) fun pc => some { f with pc := pc, locals := ls, stack := r }
      | none => none
    | _ => none
  | .ifnonnull off => match f.stack with
    | .ref _ :: r => match (f.pc : Int) + off with
      | .ofNat t => pz_n t fun pc => some { f with pc := pc, stack := r }
      | .negSucc _ => none
    | .null :: r => pz_n (f.pc + len) fun pc => some { f with pc := pc, stack := r }
    | _ => none
  | _ => none
section PZ2
variable {p : Program} {e : Env} {below : List Frame} {T tg : State} {c : Code}
theorem pz_f2_ok (hx : p.tables.exec = Jvm.exec) {f f' : JFrame} {i : Instr} {len : Nat} (hd : decode c.code f.pc = .ok (i, len)) (h1 : pz_f2 i len f = some f') (X : At T f.method c below) :
    f'.method = f.method ∧ (Steps p.tables e below (T.setTop f') tg → Steps p.tables e below (T.setTop f) tg) := by
  unfold pz_f2 at h1
  split at h1
  case h_1 =>
    split at h1
    · rename_i x r hs
      simp only [pz_push, pz_n_eq, Option.some.injEq] at h1
      subst h1
      refine ⟨rfl, fun a => ?_⟩
      jvm_step X [X.top, hx, hd, hs, show (Value.int x).category = 1 from rfl]
      exact a
    · rename_i x r hs
      simp only [pz_push, pz_n_eq, Option.some.injEq] at h1
      subst h1
      refine ⟨rfl, fun a => ?_⟩
      jvm_step X [X.top, hx, hd, hs, show (Value.ref x).category = 1 from rfl]
      exact a
    · cases h1
  case h_2 =>
    split at h1
    · rename_i x r hs
      simp only [pz_n_eq, Option.some.injEq] at h1
      subst h1
      refine ⟨rfl, fun a => ?_⟩
      jvm_step X [X.top, hx, hd, hs, show (Value.int x).category = 1 from rfl]
      exact a
    · rename_i x r hs
      simp only [pz_n_eq, Option.some.injEq] at h1
      subst h1
      refine ⟨rfl, fun a => ?_⟩
      jvm_step X [X.top, hx, hd, hs, show (Value.ref x).category = 1 from rfl]
      exact a
    · cases h1
  case h_3 =>
    split at h1
    · rename_i y x r hs
      split at h1
      · cases h1
      · rename_i hy
        simp only [pz_i_eq, pz_push, pz_n_eq, Option.some.injEq] at h1
        subst h1
        refine ⟨rfl, fun a => ?_⟩
        jvm_step X [X.top, hx, hd, hs, hy]
        exact a
    · cases h1
  case h_4 =>
    split at h1
    · rename_i y x r hs
      split at h1
      · cases h1
      · rename_i hy
        simp only [pz_i_eq, pz_push, pz_n_eq, Option.some.injEq] at h1
        subst h1
        refine ⟨rfl, fun a => ?_⟩
        jvm_step X [X.top, hx, hd, hs, hy]
        exact a
    · cases h1
  case h_5 k =>
    split at h1
    · rename_i x r hs
      split at h1
      · rename_i ls hl
        simp only [pz_n_eq, Option.some.injEq] at h1
        subst h1
        refine ⟨rfl, fun a => ?_⟩
        jvm_step X [X.top, ↓top_set X.top, hx, hd, hs, hl, show (Value.ref x).isRef = true from rfl]
        exact a
      · cases h1
    · cases h1
  case h_6 k =>
    split at h1
    · rename_i x r hs
      split at h1
      · rename_i ls hl
        simp only [pz_n_eq, Option.some.injEq] at h1
        subst h1
        refine ⟨rfl, fun a => ?_⟩
        jvm_step X [X.top, ↓top_set X.top, hx, hd, hs, hl, show (Value.ref x).isRef = true from rfl]
        exact a
      · cases h1
    · cases h1
  case h_7 off =>
    split at h1
    · rename_i x r hs
      split at h1
      · rename_i t ht
        simp only [pz_n_eq, Option.some.injEq] at h1
        subst h1
        refine ⟨rfl, fun a => ?_⟩
        jvm_step X [X.top, hx, hd, hs, ht]
        exact a
      · cases h1
    · rename_i r hs
      simp only [pz_n_eq, Option.some.injEq] at h1
      subst h1
      refine ⟨rfl, fun a => ?_⟩
      jvm_step X [X.top, hx, hd, hs]
      exact a
    · cases h1
  case h_8 => cases h1
end PZ2
/-! ===== END ===== -/
