/-! ===== instructions that touch the frame alone, many at once ===== -/
def pz_n {β : Type} (n : Nat) (k : Nat → β) : β := match n with
  | 0 => k 0
  | m + 1 => k (m + 1)
theorem pz_n_eq {β : Type} (n : Nat) (k : Nat → β) : pz_n n k = k n := by cases n <;> rfl
def pz_i {β : Type} (x : Int32) (k : Int32 → β) : β := pz_n x.toUInt32.toNat fun n => k (Int32.ofNat n)
theorem pz_i_eq {β : Type} (x : Int32) (k : Int32 → β) : pz_i x k = k x := by
  unfold pz_i
  rw [pz_n_eq]
  congr 1
  obtain ⟨⟨b⟩⟩ := x
  show (⟨⟨BitVec.ofNat 32 b.toNat⟩⟩ : Int32) = ⟨⟨b⟩⟩
  rw [BitVec.ofNat_toNat, BitVec.setWidth_eq]
noncomputable def pz_at {α : Type} (l : List α) : Nat → Option α := List.rec (fun _ => none) (fun a _ ih n => Nat.rec (some a) (fun m _ => ih m) n) l
theorem pz_at_eq {α : Type} (l : List α) : ∀ n, pz_at l n = l[n]? := by
  induction l with
  | nil => intro n; rfl
  | cons a l ih =>
    intro n
    cases n with
    | zero => rfl
    | succ n => exact (ih n).trans (by simp)
def pz_loc (f : JFrame) (k : Nat) : Option Slot := match f.locals with
  | ⟨l⟩ => l[k]?
theorem pz_loc_eq (f : JFrame) (k : Nat) : pz_loc f k = f.locals[k]? := by
  unfold pz_loc
  cases h : f.locals with
  | mk l => simp
def pz_push (f : JFrame) (len : Nat) (v : Value) : Option JFrame := pz_n (f.pc + len) fun pc => some { f with pc := pc, stack := v :: f.stack }
/-- one instruction of the frame alone -/
def pz_f1 (i : Instr) (len : Nat) (f : JFrame) : Option JFrame := match i with
  | .iload k => match pz_loc f k with
    | some (.val (.int x)) => pz_push f len (.int x)
    | _ => none
  | .iload_n k => match pz_loc f k with
    | some (.val (.int x)) => pz_push f len (.int x)
    | _ => none
  | .aload k => match pz_loc f k with
    | some (.val (.ref x)) => pz_push f len (.ref x)
    | _ => none
  | .aload_n k => match pz_loc f k with
    | some (.val (.ref x)) => pz_push f len (.ref x)
    | _ => none
  | .iconst n => pz_i (Int32.ofInt n) fun x => pz_push f len (.int x)
  | .bipush n => pz_i (Int8.ofInt n).toInt32 fun x => pz_push f len (.int x)
  | .sipush n => pz_i (Int16.ofInt n).toInt32 fun x => pz_push f len (.int x)
  | .iadd => match f.stack with
    | .int y :: .int x :: r => pz_i (x + y) fun z => pz_push { f with stack := r } len (.int z)
    | _ => none
  | .isub => match f.stack with
    | .int y :: .int x :: r => pz_i (x - y) fun z => pz_push { f with stack := r } len (.int z)
    | _ => none
  | .imul => match f.stack with
    | .int y :: .int x :: r => pz_i (x * y) fun z => pz_push { f with stack := r } len (.int z)
    | _ => none
  | .istore k => match f.stack with
    | .int x :: r => match storeLocals f.locals k (.int x) with
      | some ls => pz_n (f.pc + len) fun pc => some { f with pc := pc, locals := ls, stack := r }
      | none => none
    | _ => none
  | .istore_n k => match f.stack with
    | .int x :: r => match storeLocals f.locals k (.int x) with
      | some ls => pz_n (f.pc + len) fun pc => some { f with pc := pc, locals := ls, stack := r }
      | none => none
    | _ => none
  | .iinc k n => match pz_loc f k with
    | some (.val (.int x)) => pz_i (x + Int32.ofInt n) fun z => match storeLocals f.locals k (.int z) with
      | some ls => pz_n (f.pc + len) fun pc => some { f with pc := pc, locals := ls }
      | none => none
    | _ => none
  | .goto off => match (f.pc : Int) + off with
    | .ofNat t => pz_n t fun pc => some { f with pc := pc }
    | .negSucc _ => none
  | .if_icmp c off => match f.stack with
    | .int y :: .int x :: r => match Op.if_icmp.holds c x y with
      | true => match (f.pc : Int) + off with
        | .ofNat t => pz_n t fun pc => some { f with pc := pc, stack := r }
        | .negSucc _ => none
      | false => pz_n (f.pc + len) fun pc => some { f with pc := pc, stack := r }
    | _ => none
  | .ifCond c off => match f.stack with
    | .int x :: r => match Op.ifCond.holds c x with
      | true => match (f.pc : Int) + off with
        | .ofNat t => pz_n t fun pc => some { f with pc := pc, stack := r }
        | .negSucc _ => none
      | false => pz_n (f.pc + len) fun pc => some { f with pc := pc, stack := r }
    | _ => none
  | _ => none
section PZ1
variable {p : Program} {e : Env} {below : List Frame} {T tg : State} {c : Code}
theorem pz_f1_ok (hx : p.tables.exec = Jvm.exec) {f f' : JFrame} {i : Instr} {len : Nat} (hd : decode c.code f.pc = .ok (i, len)) (h1 : pz_f1 i len f = some f') (X : At T f.method c below) :
    f'.method = f.method ∧ (Steps p.tables e below (T.setTop f') tg → Steps p.tables e below (T.setTop f) tg) := by
  unfold pz_f1 at h1
  split at h1
  case h_1 k =>
    split at h1
    · rename_i x hl
      rw [pz_loc_eq] at hl
      simp only [pz_push, pz_n_eq, Option.some.injEq] at h1
      subst h1
      refine ⟨rfl, fun a => ?_⟩
      jvm_step X [X.top, hx, hd, hl]
      exact a
    · cases h1
  case h_2 k =>
    split at h1
    · rename_i x hl
      rw [pz_loc_eq] at hl
      simp only [pz_push, pz_n_eq, Option.some.injEq] at h1
      subst h1
      refine ⟨rfl, fun a => ?_⟩
      jvm_step X [X.top, hx, hd, hl]
      exact a
    · cases h1
  case h_3 k =>
    split at h1
    · rename_i x hl
      rw [pz_loc_eq] at hl
      simp only [pz_push, pz_n_eq, Option.some.injEq] at h1
      subst h1
      refine ⟨rfl, fun a => ?_⟩
      jvm_step X [X.top, hx, hd, hl]
      exact ⟨rfl, a⟩
    · cases h1
  case h_4 k =>
    split at h1
    · rename_i x hl
      rw [pz_loc_eq] at hl
      simp only [pz_push, pz_n_eq, Option.some.injEq] at h1
      subst h1
      refine ⟨rfl, fun a => ?_⟩
      jvm_step X [X.top, hx, hd, hl]
      exact ⟨rfl, a⟩
    · cases h1
  case h_5 n =>
    simp only [pz_i_eq, pz_push, pz_n_eq, Option.some.injEq] at h1
    subst h1
    refine ⟨rfl, fun a => ?_⟩
    jvm_step X [X.top, hx, hd]
    exact a
  case h_6 n =>
    simp only [pz_i_eq, pz_push, pz_n_eq, Option.some.injEq] at h1
    subst h1
    refine ⟨rfl, fun a => ?_⟩
    jvm_step X [X.top, hx, hd]
    exact a
  case h_7 n =>
    simp only [pz_i_eq, pz_push, pz_n_eq, Option.some.injEq] at h1
    subst h1
    refine ⟨rfl, fun a => ?_⟩
    jvm_step X [X.top, hx, hd]
    exact a
  case h_8 =>
    split at h1
    · rename_i y x r hs
      simp only [pz_i_eq, pz_push, pz_n_eq, Option.some.injEq] at h1
      subst h1
      refine ⟨rfl, fun a => ?_⟩
      jvm_step X [X.top, hx, hd, hs]
      exact a
    · cases h1
  case h_9 =>
    split at h1
    · rename_i y x r hs
      simp only [pz_i_eq, pz_push, pz_n_eq, Option.some.injEq] at h1
      subst h1
      refine ⟨rfl, fun a => ?_⟩
      jvm_step X [X.top, hx, hd, hs]
      exact a
    · cases h1
  case h_10 =>
    split at h1
    · rename_i y x r hs
      simp only [pz_i_eq, pz_push, pz_n_eq, Option.some.injEq] at h1
      subst h1
      refine ⟨rfl, fun a => ?_⟩
      jvm_step X [X.top, hx, hd, hs]
      exact a
    · cases h1
  case h_11 k =>
    split at h1
    · rename_i x r hs
      split at h1
      · rename_i ls hl
        simp only [pz_n_eq, Option.some.injEq] at h1
        subst h1
        refine ⟨rfl, fun a => ?_⟩
        jvm_step X [X.top, ↓top_set X.top, hx, hd, hs, hl]
        exact a
      · cases h1
    · cases h1
  case h_12 k =>
    split at h1
    · rename_i x r hs
      split at h1
      · rename_i ls hl
        simp only [pz_n_eq, Option.some.injEq] at h1
        subst h1
        refine ⟨rfl, fun a => ?_⟩
        jvm_step X [X.top, ↓top_set X.top, hx, hd, hs, hl]
        exact a
      · cases h1
    · cases h1
  case h_13 k n =>
    split at h1
    · rename_i x hk
      rw [pz_loc_eq] at hk
      rw [pz_i_eq] at h1
      split at h1
      · rename_i ls hl
        simp only [pz_n_eq, Option.some.injEq] at h1
        subst h1
        refine ⟨rfl, fun a => ?_⟩
        jvm_step X [X.top, ↓top_set X.top, hx, hd, hk, hl]
        exact a
      · cases h1
    · cases h1
  case h_14 off =>
    split at h1
    · rename_i t ht
      simp only [pz_n_eq, Option.some.injEq] at h1
      subst h1
      refine ⟨rfl, fun a => ?_⟩
      jvm_step X [X.top, hx, hd, ht]
      exact a
    · cases h1
  case h_15 cc off =>
    split at h1
    · rename_i y x r hs
      split at h1
      · rename_i hc
        split at h1
        · rename_i t ht
          simp only [pz_n_eq, Option.some.injEq] at h1
          subst h1
          refine ⟨rfl, fun a => ?_⟩
          jvm_step X [X.top, hx, hd, hs, hc, ht]
          exact a
        · cases h1
      · rename_i hc
        simp only [pz_n_eq, Option.some.injEq] at h1
        subst h1
        refine ⟨rfl, fun a => ?_⟩
        jvm_step X [X.top, hx, hd, hs, hc]
        exact a
    · cases h1
  case h_16 cc off =>
    split at h1
    · rename_i x r hs
      split at h1
      · rename_i hc
        split at h1
        · rename_i t ht
          simp only [pz_n_eq, Option.some.injEq] at h1
          subst h1
          refine ⟨rfl, fun a => ?_⟩
          jvm_step X [X.top, hx, hd, hs, hc, ht]
          exact a
        · cases h1
      · rename_i hc
        simp only [pz_n_eq, Option.some.injEq] at h1
        subst h1
        refine ⟨rfl, fun a => ?_⟩
        jvm_step X [X.top, hx, hd, hs, hc]
        exact a
    · cases h1
  case h_17 => cases h1
def pz_dec (b : ByteArray) (pc : Nat) : Option (Instr × Nat) := match pz_n pc fun q => decode b q with
  | .ok r => some r
  | .error _ => none
def pz_fast (b : ByteArray) : Nat → JFrame → JFrame
  | 0, f => f
  | n + 1, f => match pz_dec b f.pc with
    | none => f
    | some (i, len) => match pz_f1 i len f with
      | some f' => pz_fast b n f'
      | none => f
theorem pz_fast_ok (hx : p.tables.exec = Jvm.exec) : ∀ (n : Nat) (f : JFrame), At T f.method c below →
    (pz_fast c.code n f).method = f.method ∧ (Steps p.tables e below (T.setTop (pz_fast c.code n f)) tg → Steps p.tables e below (T.setTop f) tg) := by
  intro n
  induction n with
  | zero => intro f X; exact ⟨rfl, fun a => a⟩
  | succ n ih =>
    intro f X
    unfold pz_fast
    split
    · exact ⟨rfl, fun a => a⟩
    · rename_i i len hd0
      have hd : decode c.code f.pc = .ok (i, len) := by
        unfold pz_dec at hd0
        rw [pz_n_eq] at hd0
        split at hd0
        · rename_i r hr
          cases hd0
          exact hr
        · cases hd0
      split
      · rename_i f' h1
        obtain ⟨m1, s1⟩ := pz_f1_ok (p := p) (e := e) (tg := tg) hx hd h1 X
        obtain ⟨m2, s2⟩ := ih f' (m1 ▸ X)
        exact ⟨m2.trans m1, fun a => s1 (s2 a)⟩
      · exact ⟨rfl, fun a => a⟩
end PZ1
/-! ===== END ===== -/
