section
/-! ===== a run that is looked at step by step: until the heap has passed a size, there are frames above the listener ===== -/
/-- no invocation above the listener has ended: two frames at least, and not an exception alone above the listener -/
def pz_up : List Frame → Bool
  | .throwing _ :: _ :: _ :: _ => true
  | .throwing _ :: _ => false
  | _ :: _ :: _ => true
  | _ => false
theorem pz_ended {s : State} {o : Outcome} (h : Ended s Lib.HandBits.below0 o) : pz_up s.frames = false := by
  cases o with
  | threw a =>
    have h1 : s.frames = .throwing a :: Lib.HandBits.below0 := h
    rw [h1]
    rfl
  | returned v =>
    have h1 : ∃ g, s.frames = [Frame.native g] := ⟨_, h⟩
    obtain ⟨g, hg⟩ := h1
    rw [hg]
    rfl
/-- has the heap passed the size hs? asked where an exception is looked for a handler alone -/
def pz_big (hs : Nat) (s : State) : Bool := match s.frames with
  | .throwing _ :: _ => Nat.blt hs s.heap.size
  | _ => false
/-! ===== END ===== -/
end
section
/-! ===== instructions that touch the frame alone, many at once ===== -/
def pz_n {β : Type} (n : Nat) (k : Nat → β) : β := match n with
  | 0 => k 0
  | m + 1 => k (m + 1)
theorem pz_n_eq {β : Type} (n : Nat) (k : Nat → β) : pz_n n k = k n := by cases n <;> rfl
def pz_i {β : Type} (x : Int32) (k : Int32 → β) : β := pz_n x.toUInt32.toNat fun n => k (Int32.ofNat n)
theorem pz_i_eq {β : Type} (x : Int32) (k : Int32 → β) : pz_i x k = k x := by
  unfold pz_i
  rw [pz_n_eq]
  congr 1
  obtain ⟨⟨b⟩⟩ := x
  show (⟨⟨BitVec.ofNat 32 b.toNat⟩⟩ : Int32) = ⟨⟨b⟩⟩
  rw [BitVec.ofNat_toNat, BitVec.setWidth_eq]
noncomputable def pz_at {α : Type} (l : List α) : Nat → Option α := List.rec (fun _ => none) (fun a _ ih n => Nat.rec (some a) (fun m _ => ih m) n) l
theorem pz_at_eq {α : Type} (l : List α) : ∀ n, pz_at l n = l[n]? := by
  induction l with
  | nil => intro n; rfl
  | cons a l ih =>
    intro n
    cases n with
    | zero => rfl
    | succ n => exact (ih n).trans (by simp)
def pz_loc (f : JFrame) (k : Nat) : Option Slot := match f.locals with
  | ⟨l⟩ => l[k]?
theorem pz_loc_eq (f : JFrame) (k : Nat) : pz_loc f k = f.locals[k]? := by
  unfold pz_loc
  cases h : f.locals with
  | mk l => simp
def pz_push (f : JFrame) (len : Nat) (v : Value) : Option JFrame := pz_n (f.pc + len) fun pc => some { f with pc := pc, stack := v :: f.stack }
/-- one instruction of the frame alone -/
def pz_f1 (i : Instr) (len : Nat) (f : JFrame) : Option JFrame := match i with
  | .iload k => match pz_loc f k with
    | some (.val (.int x)) => pz_push f len (.int x)
    | _ => none
  | .iload_n k => match pz_loc f k with
    | some (.val (.int x)) => pz_push f len (.int x)
    | _ => none
  | .aload k => match pz_loc f k with
    | some (.val (.ref x)) => pz_push f len (.ref x)
    | _ => none
  | .aload_n k => match pz_loc f k with
    | some (.val (.ref x)) => pz_push f len (.ref x)
    | _ => none
  | .iconst n => pz_i (Int32.ofInt n) fun x => pz_push f len (.int x)
  | .bipush n => pz_i (Int8.ofInt n).toInt32 fun x => pz_push f len (.int x)
  | .sipush n => pz_i (Int16.ofInt n).toInt32 fun x => pz_push f len (.int x)
  | .iadd => match f.stack with
    | .int y :: .int x :: r => pz_i (x + y) fun z => pz_push { f with stack := r } len (.int z)
    | _ => none
  | .isub => match f.stack with
    | .int y :: .int x :: r => pz_i (x - y) fun z => pz_push { f with stack := r } len (.int z)
    | _ => none
  | .imul => match f.stack with
    | .int y :: .int x :: r => pz_i (x * y) fun z => pz_push { f with stack := r } len (.int z)
    | _ => none
  | .istore k => match f.stack with
    | .int x :: r => match storeLocals f.locals k (.int x) with
      | some ls => pz_n (f.pc + len) fun pc => some { f with pc := pc, locals := ls, stack := r }
      | none => none
    | _ => none
  | .istore_n k => match f.stack with
    | .int x :: r => match storeLocals f.locals k (.int x) with
      | some ls => pz_n (f.pc + len) fun pc => some { f with pc := pc, locals := ls, stack := r }
      | none => none
    | _ => none
  | .iinc k n => match pz_loc f k with
    | some (.val (.int x)) => pz_i (x + Int32.ofInt n) fun z => match storeLocals f.locals k (.int z) with
      | some ls => pz_n (f.pc + len) fun pc => some { f with pc := pc, locals := ls }
      | none => none
    | _ => none
  | .goto off => match (f.pc : Int) + off with
    | .ofNat t => pz_n t fun pc => some { f with pc := pc }
    | .negSucc _ => none
  | .if_icmp c off => match f.stack with
    | .int y :: .int x :: r => match Op.if_icmp.holds c x y with
      | true => match (f.pc : Int) + off with
        | .ofNat t => pz_n t fun pc => some { f with pc := pc, stack := r }
        | .negSucc _ => none
      | false => pz_n (f.pc + len) fun pc => some { f with pc := pc, stack := r }
    | _ => none
  | .ifCond c off => match f.stack with
    | .int x :: r => match Op.ifCond.holds c x with
      | true => match (f.pc : Int) + off with
        | .ofNat t => pz_n t fun pc => some { f with pc := pc, stack := r }
        | .negSucc _ => none
      | false => pz_n (f.pc + len) fun pc => some { f with pc := pc, stack := r }
    | _ => none
  | _ => none
section PZ1
variable {p : Program} {e : Env} {below : List Frame} {T tg : State} {c : Code}
theorem pz_f1_ok (hx : p.tables.exec = Jvm.exec) {f f' : JFrame} {i : Instr} {len : Nat} (hd : decode c.code f.pc = .ok (i, len)) (h1 : pz_f1 i len f = some f') (X : At T f.method c below) :
    f'.method = f.method ∧ (Steps p.tables e below (T.setTop f') tg → Steps p.tables e below (T.setTop f) tg) := by
  unfold pz_f1 at h1
  split at h1
  case h_1 k =>
    split at h1
    · rename_i x hl
      rw [pz_loc_eq] at hl
      simp only [pz_push, pz_n_eq, Option.some.injEq] at h1
      subst h1
      refine ⟨rfl, fun a => ?_⟩
      jvm_step X [X.top, hx, hd, hl]
      exact a
    · cases h1
  case h_2 k =>
    split at h1
    · rename_i x hl
      rw [pz_loc_eq] at hl
      simp only [pz_push, pz_n_eq, Option.some.injEq] at h1
      subst h1
      refine ⟨rfl, fun a => ?_⟩
      jvm_step X [X.top, hx, hd, hl]
      exact a
    · cases h1
  case h_3 k =>
    split at h1
    · rename_i x hl
      rw [pz_loc_eq] at hl
      simp only [pz_push, pz_n_eq, Option.some.injEq] at h1
      subst h1
      refine ⟨rfl, fun a => ?_⟩
      jvm_step X [X.top, hx, hd, hl]
      exact ⟨rfl, a⟩
    · cases h1
  case h_4 k =>
    split at h1
    · rename_i x hl
      rw [pz_loc_eq] at hl
      simp only [pz_push, pz_n_eq, Option.some.injEq] at h1
      subst h1
      refine ⟨rfl, fun a => ?_⟩
      jvm_step X [X.top, hx, hd, hl]
      exact ⟨rfl, a⟩
    · cases h1
  case h_5 n =>
    simp only [pz_i_eq, pz_push, pz_n_eq, Option.some.injEq] at h1
    subst h1
    refine ⟨rfl, fun a => ?_⟩
    jvm_step X [X.top, hx, hd]
    exact a
  case h_6 n =>
    simp only [pz_i_eq, pz_push, pz_n_eq, Option.some.injEq] at h1
    subst h1
    refine ⟨rfl, fun a => ?_⟩
    jvm_step X [X.top, hx, hd]
    exact a
  case h_7 n =>
    simp only [pz_i_eq, pz_push, pz_n_eq, Option.some.injEq] at h1
    subst h1
    refine ⟨rfl, fun a => ?_⟩
    jvm_step X [X.top, hx, hd]
    exact a
  case h_8 =>
    split at h1
    · rename_i y x r hs
      simp only [pz_i_eq, pz_push, pz_n_eq, Option.some.injEq] at h1
      subst h1
      refine ⟨rfl, fun a => ?_⟩
      jvm_step X [X.top, hx, hd, hs]
      exact a
    · cases h1
  case h_9 =>
    split at h1
    · rename_i y x r hs
      simp only [pz_i_eq, pz_push, pz_n_eq, Option.some.injEq] at h1
      subst h1
      refine ⟨rfl, fun a => ?_⟩
      jvm_step X [X.top, hx, hd, hs]
      exact a
    · cases h1
  case h_10 =>
    split at h1
    · rename_i y x r hs
      simp only [pz_i_eq, pz_push, pz_n_eq, Option.some.injEq] at h1
      subst h1
      refine ⟨rfl, fun a => ?_⟩
      jvm_step X [X.top, hx, hd, hs]
      exact a
    · cases h1
  case h_11 k =>
    split at h1
    · rename_i x r hs
      split at h1
      · rename_i ls hl
        simp only [pz_n_eq, Option.some.injEq] at h1
        subst h1
        refine ⟨rfl, fun a => ?_⟩
        jvm_step X [X.top, ↓top_set X.top, hx, hd, hs, hl]
        exact a
      · cases h1
    · cases h1
  case h_12 k =>
    split at h1
    · rename_i x r hs
      split at h1
      · rename_i ls hl
        simp only [pz_n_eq, Option.some.injEq] at h1
        subst h1
        refine ⟨rfl, fun a => ?_⟩
        jvm_step X [X.top, ↓top_set X.top, hx, hd, hs, hl]
        exact a
      · cases h1
    · cases h1
  case h_13 k n =>
    split at h1
    · rename_i x hk
      rw [pz_loc_eq] at hk
      rw [pz_i_eq] at h1
      split at h1
      · rename_i ls hl
        simp only [pz_n_eq, Option.some.injEq] at h1
        subst h1
        refine ⟨rfl, fun a => ?_⟩
        jvm_step X [X.top, ↓top_set X.top, hx, hd, hk, hl]
        exact a
      · cases h1
    · cases h1
  case h_14 off =>
    split at h1
    · rename_i t ht
      simp only [pz_n_eq, Option.some.injEq] at h1
      subst h1
      refine ⟨rfl, fun a => ?_⟩
      jvm_step X [X.top, hx, hd, ht]
      exact a
    · cases h1
  case h_15 cc off =>
    split at h1
    · rename_i y x r hs
      split at h1
      · rename_i hc
        split at h1
        · rename_i t ht
          simp only [pz_n_eq, Option.some.injEq] at h1
          subst h1
          refine ⟨rfl, fun a => ?_⟩
          jvm_step X [X.top, hx, hd, hs, hc, ht]
          exact a
        · cases h1
      · rename_i hc
        simp only [pz_n_eq, Option.some.injEq] at h1
        subst h1
        refine ⟨rfl, fun a => ?_⟩
        jvm_step X [X.top, hx, hd, hs, hc]
        exact a
    · cases h1
  case h_16 cc off =>
    split at h1
    · rename_i x r hs
      split at h1
      · rename_i hc
        split at h1
        · rename_i t ht
          simp only [pz_n_eq, Option.some.injEq] at h1
          subst h1
          refine ⟨rfl, fun a => ?_⟩
          jvm_step X [X.top, hx, hd, hs, hc, ht]
          exact a
        · cases h1
      · rename_i hc
        simp only [pz_n_eq, Option.some.injEq] at h1
        subst h1
        refine ⟨rfl, fun a => ?_⟩
        jvm_step X [X.top, hx, hd, hs, hc]
        exact a
    · cases h1
  case h_17 => cases h1
def pz_dec (b : ByteArray) (pc : Nat) : Option (Instr × Nat) := match pz_n pc fun q => decode b q with
  | .ok r => some r
  | .error _ => none
def pz_fast (b : ByteArray) : Nat → JFrame → JFrame
  | 0, f => f
  | n + 1, f => match pz_dec b f.pc with
    | none => f
    | some (i, len) => match pz_f1 i len f with
      | some f' => pz_fast b n f'
      | none => f
theorem pz_fast_ok (hx : p.tables.exec = Jvm.exec) : ∀ (n : Nat) (f : JFrame), At T f.method c below →
    (pz_fast c.code n f).method = f.method ∧ (Steps p.tables e below (T.setTop (pz_fast c.code n f)) tg → Steps p.tables e below (T.setTop f) tg) := by
  intro n
  induction n with
  | zero => intro f X; exact ⟨rfl, fun a => a⟩
  | succ n ih =>
    intro f X
    unfold pz_fast
    split
    · exact ⟨rfl, fun a => a⟩
    · rename_i i len hd0
      have hd : decode c.code f.pc = .ok (i, len) := by
        unfold pz_dec at hd0
        rw [pz_n_eq] at hd0
        split at hd0
        · rename_i r hr
          cases hd0
          exact hr
        · cases hd0
      split
      · rename_i f' h1
        obtain ⟨m1, s1⟩ := pz_f1_ok (p := p) (e := e) (tg := tg) hx hd h1 X
        obtain ⟨m2, s2⟩ := ih f' (m1 ▸ X)
        exact ⟨m2.trans m1, fun a => s1 (s2 a)⟩
      · exact ⟨rfl, fun a => a⟩
end PZ1
/-! ===== END ===== -/
end
section
/-! ===== the run of a state: the frame's own instructions at once, the others one by one ===== -/
theorem pz_up_within {s : State} {below : List Frame} (h : Within s below) (hb : below ≠ []) : pz_up s.frames = true := by
  obtain ⟨above, hf, hne, ht⟩ := h
  rw [hf]
  cases above with
  | nil => exact absurd rfl hne
  | cons a as =>
    cases below with
    | nil => exact absurd rfl hb
    | cons b bs =>
      cases as with
      | nil => cases a <;> first | rfl | exact absurd rfl (ht _)
      | cons a2 as => cases a <;> cases as <;> rfl
/-- the machine comes from s to t, and nothing above the listener has ended on the way -/
def pz_Go (tb : Tables) (e : Env) (s t : State) : Prop := ∃ n, stepsAlone tb e n s = t ∧ ∀ k, k < n → pz_up (stepsAlone tb e k s).frames = true
theorem pz_Go.refl {tb : Tables} {e : Env} (s : State) : pz_Go tb e s s := ⟨0, rfl, fun _ h => absurd h (Nat.not_lt_zero _)⟩
theorem pz_Go.trans {tb : Tables} {e : Env} {s t u : State} (h : pz_Go tb e s t) (h' : pz_Go tb e t u) : pz_Go tb e s u := by
  obtain ⟨m, hm, wm⟩ := h
  obtain ⟨n, hn, wn⟩ := h'
  refine ⟨m + n, by rw [stepsAlone_add, hm, hn], fun k hk => ?_⟩
  rcases Nat.lt_or_ge k m with h | h
  · exact wm k h
  · obtain ⟨j, rfl⟩ := Nat.exists_eq_add_of_le h
    rw [stepsAlone_add, hm]
    exact wn j (by omega)
theorem pz_Go.of {tb : Tables} {e : Env} {s t : State} {below : List Frame} (hb : below ≠ []) (h : Steps tb e below s t) : pz_Go tb e s t := by
  obtain ⟨n, hn, wn⟩ := h
  exact ⟨n, hn, fun k hk => pz_up_within (wn k hk) hb⟩
def pz_chk (s : State) : Bool := match pz_up s.frames with
  | false => false
  | true => match s.status, s.curStatus?, s.alone with
    | .running, some .runnable, true => true
    | _, _, _ => false
theorem pz_chk_spec {s : State} (h : pz_chk s = true) : pz_up s.frames = true ∧ s.status = .running ∧ s.curStatus? = some .runnable ∧ s.alone = true := by
  unfold pz_chk at h
  split at h
  · cases h
  · rename_i hu
    split at h
    · rename_i h1 h2 h3
      exact ⟨hu, h1, h2, h3⟩
    · cases h
theorem pz_Go.step {tb : Tables} {e : Env} {s : State} (h : pz_chk s = true) : pz_Go tb e s (stepThread tb e s).1 := by
  obtain ⟨hu, h1, h2, h3⟩ := pz_chk_spec h
  refine ⟨1, by simp only [stepsAlone, h1, h2, h3], fun k hk => ?_⟩
  have : k = 0 := by omega
  subst this
  exact hu
def pz_plain (s : State) (m : MethodId) : Bool := match s.vm.classes[m.cls]? with
  | some k => plainName k.name
  | none => true
def pz_hot (s : State) : State := match s.frames with
  | .java f :: _ => match pz_plain s f.method with
    | false => s
    | true => match s.code? f.method with
      | some c => s.setTop (pz_fast c.code 400 f)
      | none => s
  | _ => s
theorem pz_hot_ok {p : Program} {e : Env} (hx : p.tables.exec = Jvm.exec) {s : State} (h : pz_chk s = true) : pz_Go p.tables e s (pz_hot s) ∧ pz_chk (pz_hot s) = true := by
  unfold pz_hot
  split
  · rename_i f r hf
    split
    · exact ⟨pz_Go.refl s, h⟩
    · rename_i hp
      split
      · rename_i c hc
        obtain ⟨hu, h1, h2, h3⟩ := pz_chk_spec h
        have htop : s.topJava? = some f := by unfold State.topJava?; rw [hf]
        have hi : s.topJava?.isSome := by rw [htop]; rfl
        have hr : r ≠ [] := by
          intro q
          rw [hf, q] at hu
          cases hu
        have hpl : s.plainMethod f.method := by
          intro k hk
          unfold pz_plain at hp
          rw [hk] at hp
          have hp2 : plainName k.name = true := hp
          rw [hp2]
          rfl
        have X : At s f.method c r := ⟨hi, ⟨[], by rw [hf]; rfl⟩, h1, h2, h3, hc, hpl⟩
        have hself : s.setTop f = s := State.setTop_self htop
        refine ⟨pz_Go.of hr ?_, ?_⟩
        · have := (pz_fast_ok (p := p) (e := e) (tg := s.setTop (pz_fast c.code 400 f)) hx 400 f X).2 (Steps.refl _)
          rw [hself] at this
          exact this
        · have hfr : (s.setTop (pz_fast c.code 400 f)).frames = .java (pz_fast c.code 400 f) :: r := by rw [State.frames_setTop' _ hi, hf]; rfl
          have q1 : (s.setTop (pz_fast c.code 400 f)).status = .running := h1
          have q2 : (s.setTop (pz_fast c.code 400 f)).curStatus? = some .runnable := by rw [State.curStatus?_setTop]; exact h2
          have q3 : (s.setTop (pz_fast c.code 400 f)).alone = true := by rw [State.alone_setTop]; exact h3
          unfold pz_chk
          rw [hfr, q1, q2, q3]
          cases r with
          | nil => exact absurd rfl hr
          | cons b bs => rfl
      · exact ⟨pz_Go.refl s, h⟩
  · exact ⟨pz_Go.refl s, h⟩
def pz_run (tb : Tables) (e : Env) (hs : Nat) : Nat → State → Bool
  | 0, _ => false
  | n + 1, s => match pz_big hs s with
    | true => true
    | false => match pz_chk s with
      | false => false
      | true => pz_run tb e hs n (stepThread tb e (pz_hot s)).1
theorem pz_run_ok {p : Program} {e : Env} (hx : p.tables.exec = Jvm.exec) (hs : Nat) : ∀ (n : Nat) (s : State), pz_run p.tables e hs n s = true →
    ∃ t, pz_Go p.tables e s t ∧ hs < t.heap.size := by
  intro n
  induction n with
  | zero => intro s h; cases h
  | succ n ih =>
    intro s h
    unfold pz_run at h
    split at h
    · rename_i hb
      refine ⟨s, pz_Go.refl s, ?_⟩
      unfold pz_big at hb
      split at hb
      · exact Nat.le_of_ble_eq_true hb
      · cases hb
    · split at h
      · cases h
      · rename_i hc
        obtain ⟨g1, c1⟩ := pz_hot_ok (e := e) hx hc
        obtain ⟨t, gt, ht⟩ := ih _ h
        exact ⟨t, (g1.trans (pz_Go.step c1)).trans gt, ht⟩
/-- a run that passes the claim's room while nothing has ended: the claim is false -/
theorem pz_false {n : Nat} (h : pz_run start1.p0.tables start1.e0 (start1.about.heap.size + 180) n start1.about = true) : ¬ Claimed_1_1 := by
  intro hA
  obtain ⟨hL, hW, had, -, hcas, hclk, hfr, hfit, hheap, happ, hcalls, hrest, hpre⟩ := start1.atStart
  obtain ⟨q, o, -, -, hend, -, -, -, hsame⟩ := hA launch0 rfl hL hW start1.p0 start1.e0 had hcas hclk start1.about _ start1.args0 Lib.HandBits.below0 hfr hfit hheap happ ⟨hcalls, hrest, hpre⟩
  obtain ⟨t, ⟨k, hk, wk⟩, ht⟩ := pz_run_ok rfl _ _ _ h
  have hq : (stepsAlone start1.p0.tables start1.e0 q start1.about).heap.size ≤ start1.about.heap.size + 180 := hsame.2.2.1
  rcases Nat.lt_or_ge q k with hlt | hge
  · have h1 := pz_ended hend
    rw [wk q hlt] at h1
    cases h1
  · obtain ⟨d, rfl⟩ := Nat.exists_eq_add_of_le hge
    have h2 : (stepsAlone start1.p0.tables start1.e0 k start1.about).heap.size ≤ (stepsAlone start1.p0.tables start1.e0 (k + d) start1.about).heap.size := by
      rw [stepsAlone_add]
      exact stepsAlone_heap_le _ _ _ _
    rw [hk] at h2
    omega
/-! ===== END ===== -/
end
section
/-! ===== more instructions that touch the frame alone ===== -/
def pz_f2 (i : Instr) (len : Nat) (f : JFrame) : Option JFrame := match i with
  | .dup => match f.stack with
    | .int x :: r => pz_push { f with stack := .int x :: r } len (.int x)
    | .ref x :: r => pz_push { f with stack := .ref x :: r } len (.ref x)
    | _ => none
  | .pop => match f.stack with
    | .int _ :: r => pz_n (f.pc + len) fun pc => some { f with pc := pc, stack := r }
    | .ref _ :: r => pz_n (f.pc + len) fun pc => some { f with pc := pc, stack := r }
    | _ => none
  | .idiv => match f.stack with
    | .int y :: .int x :: r => if y = 0 then none else pz_i (x / y) fun z => pz_push { f with stack := r } len (.int z)
    | _ => none
  | .irem => match f.stack with
    | .int y :: .int x :: r => if y = 0 then none else pz_i (x - (x / y) * y) fun z => pz_push { f with stack := r } len (.int z)
    | _ => none
  | .astore k => match f.stack with
    | .ref x :: r => match storeLocals f.locals k (.ref x) with
      | some ls => pz_n (f.pc + len) fun pc => some { f with pc := pc, locals := ls, stack := r }
      | none => none
    | _ => none
  | .astore_n k => match f.stack with
    | .ref x :: r => match storeLocals f.locals k (.ref x) with
      | some ls => pz_n (f.pc + len) fun pc => some { f with pc := pc, locals := ls, stack := r }
      | none => none
    | _ => none
  | .ifnonnull off => match f.stack with
    | .ref _ :: r => match (f.pc : Int) + off with
      | .ofNat t => pz_n t fun pc => some { f with pc := pc, stack := r }
      | .negSucc _ => none
    | .null :: r => pz_n (f.pc + len) fun pc => some { f with pc := pc, stack := r }
    | _ => none
  | _ => none
section PZ2
variable {p : Program} {e : Env} {below : List Frame} {T tg : State} {c : Code}
theorem pz_f2_ok (hx : p.tables.exec = Jvm.exec) {f f' : JFrame} {i : Instr} {len : Nat} (hd : decode c.code f.pc = .ok (i, len)) (h1 : pz_f2 i len f = some f') (X : At T f.method c below) :
    f'.method = f.method ∧ (Steps p.tables e below (T.setTop f') tg → Steps p.tables e below (T.setTop f) tg) := by
  unfold pz_f2 at h1
  split at h1
  case h_1 =>
    split at h1
    · rename_i x r hs
      simp only [pz_push, pz_n_eq, Option.some.injEq] at h1
      subst h1
      refine ⟨rfl, fun a => ?_⟩
      jvm_step X [X.top, hx, hd, hs, show (Value.int x).category = 1 from rfl]
      exact a
    · rename_i x r hs
      simp only [pz_push, pz_n_eq, Option.some.injEq] at h1
      subst h1
      refine ⟨rfl, fun a => ?_⟩
      jvm_step X [X.top, hx, hd, hs, show (Value.ref x).category = 1 from rfl]
      exact a
    · cases h1
  case h_2 =>
    split at h1
    · rename_i x r hs
      simp only [pz_n_eq, Option.some.injEq] at h1
      subst h1
      refine ⟨rfl, fun a => ?_⟩
      jvm_step X [X.top, hx, hd, hs, show (Value.int x).category = 1 from rfl]
      exact a
    · rename_i x r hs
      simp only [pz_n_eq, Option.some.injEq] at h1
      subst h1
      refine ⟨rfl, fun a => ?_⟩
      jvm_step X [X.top, hx, hd, hs, show (Value.ref x).category = 1 from rfl]
      exact a
    · cases h1
  case h_3 =>
    split at h1
    · rename_i y x r hs
      split at h1
      · cases h1
      · rename_i hy
        simp only [pz_i_eq, pz_push, pz_n_eq, Option.some.injEq] at h1
        subst h1
        refine ⟨rfl, fun a => ?_⟩
        jvm_step X [X.top, hx, hd, hs, hy]
        exact a
    · cases h1
  case h_4 =>
    split at h1
    · rename_i y x r hs
      split at h1
      · cases h1
      · rename_i hy
        simp only [pz_i_eq, pz_push, pz_n_eq, Option.some.injEq] at h1
        subst h1
        refine ⟨rfl, fun a => ?_⟩
        jvm_step X [X.top, hx, hd, hs, hy]
        exact a
    · cases h1
  case h_5 k =>
    split at h1
    · rename_i x r hs
      split at h1
      · rename_i ls hl
        simp only [pz_n_eq, Option.some.injEq] at h1
        subst h1
        refine ⟨rfl, fun a => ?_⟩
        jvm_step X [X.top, ↓top_set X.top, hx, hd, hs, hl, show (Value.ref x).isRef = true from rfl]
        exact a
      · cases h1
    · cases h1
  case h_6 k =>
    split at h1
    · rename_i x r hs
      split at h1
      · rename_i ls hl
        simp only [pz_n_eq, Option.some.injEq] at h1
        subst h1
        refine ⟨rfl, fun a => ?_⟩
        jvm_step X [X.top, ↓top_set X.top, hx, hd, hs, hl, show (Value.ref x).isRef = true from rfl]
        exact a
      · cases h1
    · cases h1
  case h_7 off =>
    split at h1
    · rename_i x r hs
      split at h1
      · rename_i t ht
        simp only [pz_n_eq, Option.some.injEq] at h1
        subst h1
        refine ⟨rfl, fun a => ?_⟩
        jvm_step X [X.top, hx, hd, hs, ht]
        exact a
      · cases h1
    · rename_i r hs
      simp only [pz_n_eq, Option.some.injEq] at h1
      subst h1
      refine ⟨rfl, fun a => ?_⟩
      jvm_step X [X.top, hx, hd, hs]
      exact a
    · cases h1
  case h_8 => cases h1
end PZ2
/-! ===== END ===== -/
end
section
/-! ===== instructions that read and write the heap ===== -/
/-- a state by its heap, its book of slots and its frames; the rest is S's -/
def pz_C (S : State) (hp : List Cell) (su : Nat) (fs : List Frame) : State := ({ S with heap := ⟨hp⟩, slotsUsed := su } : State).setFrames fs
theorem pz_C_frames {S : State} {hp : List Cell} {su : Nat} {fs : List Frame} (h : S.cur < S.threads.size) : (pz_C S hp su fs).frames = fs := State.frames_setFrames fs (s := { S with heap := ⟨hp⟩, slotsUsed := su }) h
theorem pz_C_top {S : State} {hp : List Cell} {su : Nat} {f g : JFrame} {r : List Frame} (h : S.cur < S.threads.size) : (pz_C S hp su (.java f :: r)).setTop g = pz_C S hp su (.java g :: r) := by
  rw [State.setTop_of_frames g (pz_C_frames h)]
  exact State.setFrames_setFrames _ _ _
theorem pz_C_setCell (S : State) (hp : List Cell) (su : Nat) (fs : List Frame) (a : Addr) (x : Cell) : (pz_C S hp su fs).setCell a x = pz_C S (hp.set a x) su fs := by
  have h : (⟨hp⟩ : Array Cell).setIfInBounds a x = ⟨hp.set a x⟩ := List.setIfInBounds_toArray ..
  show ({ (({ S with heap := ⟨hp⟩, slotsUsed := su } : State).setFrames fs) with heap := (⟨hp⟩ : Array Cell).setIfInBounds a x } : State) = _
  rw [h]
  rfl
theorem pz_C_pushCell (S : State) (hp : List Cell) (su : Nat) (fs : List Frame) (x : Cell) : (pz_C S hp su fs).pushCell x = pz_C S (hp ++ [x]) (su + x.slots.size) fs := by
  have h : (⟨hp⟩ : Array Cell).push x = ⟨hp ++ [x]⟩ := List.push_toArray ..
  show ({ (({ S with heap := ⟨hp⟩, slotsUsed := su } : State).setFrames fs) with heap := (⟨hp⟩ : Array Cell).push x, slotsUsed := su + x.slots.size } : State) = _
  rw [h]
  rfl
theorem pz_C_get (S : State) (hp : List Cell) (su : Nat) (fs : List Frame) (a : Addr) : (pz_C S hp su fs).heap[a]? = hp[a]? := List.getElem?_toArray ..
def pz_fld (vm : Vm) (d idx : Nat) : Option (Nat × Field) := match vm.classes[d]? with
  | some k => match k.resolved[idx]? with
    | some (some (.field c i)) => match vm.classes[c]? with
      | some kc => match kc.fields[i]? with
        | some fd => some (c, fd)
        | none => none
      | none => none
    | _ => none
  | none => none
theorem pz_fld_ok {vm : Vm} {d idx c : Nat} {fd : Field} (h : pz_fld vm d idx = some (c, fd)) : vm.fieldReady d idx c fd := by
  unfold pz_fld at h
  split at h
  · rename_i k hk
    split at h
    · rename_i c' i hr
      split at h
      · rename_i kc hkc
        split at h
        · rename_i fd' hf
          cases h
          exact ⟨k, i, kc, hk, hr, hkc, hf⟩
        · cases h
      · cases h
    · cases h
  · cases h
/-- an instance field's place, its type, if it may be put -/
def pz_inst (vm : Vm) (d idx : Nat) : Option (Nat × FieldType × Bool) := match pz_fld vm d idx with
  | some (_, fd) => match fd.isStatic with
    | false => some (fd.slot, fd.type, hasFlag fd.accessFlags Acc.final)
    | true => none
  | none => none
/-- a static field's cell and place -/
def pz_stat (vm : Vm) (d idx : Nat) : Option (Nat × Nat) := match pz_fld vm d idx with
  | some (c, fd) => match fd.isStatic with
    | true => match vm.classes[c]? with
      | some k => match k.init, k.statics with
        | .initialized, some a => some (a, fd.slot)
        | _, _ => none
      | none => none
    | false => none
  | none => none
/-- the class of an array of ints -/
def pz_ints (vm : Vm) (c : Nat) : Bool := match vm.classes[c]? with
  | some k => match k.kind with
    | .array _ .int => true
    | _ => false
  | none => false
theorem pz_ints_ok {vm : Vm} {c : Nat} (h : pz_ints vm c = true) : ∃ k, vm.classes[c]? = some k ∧ ∃ comp, k.kind = .array comp .int := by
  unfold pz_ints at h
  split at h
  · rename_i k hk
    split at h
    · rename_i comp hkind
      exact ⟨k, hk, comp, hkind⟩
    · cases h
  · cases h
/-- the class '[I' -/
def pz_intArr (vm : Vm) : Option Nat := match vm.findClass "[I" with
  | some c => match pz_ints vm c with
    | true => some c
    | false => none
  | none => none
/-- a class that may be made: its number and the types of its slots -/
def pz_new (vm : Vm) (d idx : Nat) : Option (Nat × Array FieldType) := match vm.classes[d]? with
  | some kd => match kd.resolved[idx]? with
    | some (some (.cls c)) => match vm.classes[c]? with
      | some k => match k.kind, k.init with
        | .ordinary, .initialized => match k.isInterface || hasFlag k.accessFlags Acc.abstract, k.name == "java/lang/Class" with
          | false, false => some (c, k.instanceTypes)
          | _, _ => none
        | _, _ => none
      | none => none
    | _ => none
  | none => none
def pz_q2 {β : Type} (a b : Nat) (k : Nat → Nat → β) : β := pz_n a fun a => pz_n b fun b => k a b
theorem pz_q2_eq {β : Type} (a b : Nat) (k : Nat → Nat → β) : pz_q2 a b k = k a b := by unfold pz_q2; rw [pz_n_eq, pz_n_eq]
def pz_fits (vm : Vm) (c : Nat) (i : Nat) (v : Value) : Bool := State.fitsSlot ({ vm := vm } : State) c .none i v
abbrev pz_R : Type := List Cell × Nat × JFrame
def pz_next (hp : List Cell) (su : Nat) (f : JFrame) (len : Nat) (st : List Value) : Option pz_R := pz_n (f.pc + len) fun pc => some (hp, su, { f with pc := pc, stack := st })
/-- one instruction that reads or writes the heap -/
def pz_h1 (vm : Vm) (pl : Platform) (i : Instr) (len : Nat) (hp : List Cell) (su : Nat) (f : JFrame) : Option pz_R := match i with
  | .getfield idx => match f.stack with
    | .ref a :: r => match pz_q2 f.method.cls idx fun d j => pz_inst vm d j with
      | some (slot, _, _) => match hp[a]? with
        | some cl0 => match cl0.vm with
          | .none => match cl0.slots[slot]? with
            | some (.int x) => pz_next hp su f len (.int x :: r)
            | some (.ref x) => pz_next hp su f len (.ref x :: r)
            | some .null => pz_next hp su f len (.null :: r)
            | _ => none
          | _ => none
        | none => none
      | none => none
    | _ => none
  | .putfield idx => match f.stack with
    | x :: .ref a :: r => match pz_q2 f.method.cls idx fun d j => pz_inst vm d j with
      | some (slot, ty, false) => match hp[a]? with
        | some cl0 => match cl0.vm with
          | .none => match cl0.slots[slot]? with
            | some _ => match pz_fits vm cl0.cls slot (narrow ty x) with
              | true => pz_next (hp.set a (cl0.setSlot slot (narrow ty x))) su f len r
              | false => none
            | none => none
          | _ => none
        | none => none
      | _ => none
    | _ => none
  | .getstatic idx => match pz_q2 f.method.cls idx fun d j => pz_stat vm d j with
    | some (a, slot) => match hp[a]? with
      | some cl0 => match cl0.vm with
        | .statics _ => match cl0.slots[slot]? with
          | some (.ref x) => pz_next hp su f len (.ref x :: f.stack)
          | _ => none
        | _ => none
      | none => none
    | none => none
  | .iaload => match f.stack with
    | .int j :: .ref a :: r => match hp[a]? with
      | some cl0 => match cl0.vm with
        | .none => match pz_ints vm cl0.cls with
          | true => if j < 0 then none else match cl0.slots[j.toNatClampNeg]? with
            | some (.int x) => pz_next hp su f len (.int x :: r)
            | _ => none
          | false => none
        | _ => none
      | none => none
    | _ => none
  | .iastore => match f.stack with
    | .int x :: .int j :: .ref a :: r => match hp[a]? with
      | some cl0 => match cl0.vm with
        | .none => match pz_ints vm cl0.cls with
          | true => if j < 0 then none else match cl0.slots[j.toNatClampNeg]? with
            | some _ => pz_n j.toNatClampNeg fun j => pz_next (hp.set a (cl0.setSlot j (.int x))) su f len r
            | _ => none
          | false => none
        | _ => none
      | none => none
    | _ => none
  | .arraylength => match f.stack with
    | .ref a :: r => match hp[a]? with
      | some cl0 => match cl0.vm with
        | .none => match pz_ints vm cl0.cls with
          | true => pz_i cl0.slots.size.toInt32 fun x => pz_next hp su f len (.int x :: r)
          | false => none
        | _ => none
      | none => none
    | _ => none
  | .newarray .int => match f.stack with
    | .int n :: r => match pz_intArr vm with
      | some c => if n < 0 then none else pz_n n.toNatClampNeg fun m => pz_n hp.length fun q => match Nat.ble m pl.arrayLengthLimit, Nat.ble (m * 4) pl.maxHeapBytes, Nat.blt q pl.maxCells, Nat.ble (su + m) pl.maxSlots with
        | true, true, true, true => pz_n (su + m) fun su' => pz_next (hp ++ [{ cls := c, slots := ⟨List.replicate m (.int 0)⟩, vm := .none }]) su' f len (.ref q :: r)
        | _, _, _, _ => none
      | none => none
    | _ => none
  | .new idx => match pz_q2 f.method.cls idx fun d j => pz_new vm d j with
    | some (c, ts) => pz_n hp.length fun q => match Nat.blt q pl.maxCells, Nat.ble (su + ts.size) pl.maxSlots with
      | true, true => pz_n (su + ts.size) fun su' => pz_next (hp ++ [{ cls := c, slots := ts.map defaultValue, vm := .none }]) su' f len (.ref q :: f.stack)
      | _, _ => none
    | none => none
  | _ => none
/-! ===== END ===== -/
end
section
/-! ===== they do what they say ===== -/
section PZ3
variable {p : Program} {e : Env} {r : List Frame} {S tg : State} {c : Code} {hp hp' : List Cell} {su su' : Nat}
/-- one step, from a configuration to the next -/
def pz_To (p : Program) (e : Env) (S : State) (r : List Frame) (c : Code) (hp : List Cell) (su : Nat) (f : JFrame) (q : pz_R) : Prop :=
  q.2.2.method = f.method ∧ At (pz_C S q.1 q.2.1 (.java q.2.2 :: r)) f.method c r ∧ ∀ tg, Steps p.tables e r (pz_C S q.1 q.2.1 (.java q.2.2 :: r)) tg → Steps p.tables e r (pz_C S hp su (.java f :: r)) tg
theorem pz_At {f : JFrame} {g : JFrame} {m : MethodId} (hcur : S.cur < S.threads.size) (X : At (pz_C S hp su (.java f :: r)) m c r) : At (pz_C S hp' su' (.java g :: r)) m c r := by
  obtain ⟨h1, h2, h3, h4, h5, h6, h7⟩ := X
  refine ⟨?_, ⟨[], ?_⟩, h3, ?_, ?_, h6, h7⟩
  · rw [State.topJava?_of_frames (pz_C_frames hcur)]; rfl
  · rw [pz_C_frames hcur]; rfl
  · have a1 : (pz_C S hp' su' (.java g :: r)).curStatus? = ({ S with heap := ⟨hp'⟩, slotsUsed := su' } : State).curStatus? := by unfold pz_C; simp
    have a2 : (pz_C S hp su (.java f :: r)).curStatus? = ({ S with heap := ⟨hp⟩, slotsUsed := su } : State).curStatus? := by unfold pz_C; simp
    rw [a1]; rw [a2] at h4; exact h4
  · have a1 : (pz_C S hp' su' (.java g :: r)).alone = ({ S with heap := ⟨hp'⟩, slotsUsed := su' } : State).alone := State.alone_setFrames _ _
    have a2 : (pz_C S hp su (.java f :: r)).alone = ({ S with heap := ⟨hp⟩, slotsUsed := su } : State).alone := State.alone_setFrames _ _
    rw [a1]; rw [a2] at h5; exact h5
theorem pz_ofTop {f f' : JFrame} (hcur : S.cur < S.threads.size) (hm : f'.method = f.method) (X : At (pz_C S hp su (.java f :: r)) f.method c r)
    (h : ∀ tg, Steps p.tables e r ((pz_C S hp su (.java f :: r)).setTop f') tg → Steps p.tables e r ((pz_C S hp su (.java f :: r)).setTop f) tg) : pz_To p e S r c hp su f (hp, su, f') := by
  refine ⟨hm, pz_At hcur X, fun tg a => ?_⟩
  have := h tg
  rw [pz_C_top hcur, pz_C_top hcur] at this
  exact this a
theorem pz_ofCell {f f' : JFrame} {a : Nat} {x : Cell} (hcur : S.cur < S.threads.size) (hm : f'.method = f.method) (X : At (pz_C S hp su (.java f :: r)) f.method c r)
    (h : ∀ tg, Steps p.tables e r (((pz_C S hp su (.java f :: r)).setCell a x).setTop f') tg → Steps p.tables e r ((pz_C S hp su (.java f :: r)).setTop f) tg) : pz_To p e S r c hp su f (hp.set a x, su, f') := by
  refine ⟨hm, pz_At hcur X, fun tg a => ?_⟩
  have := h tg
  rw [pz_C_setCell, pz_C_top hcur, pz_C_top hcur] at this
  exact this a
theorem pz_ofPush {f f' : JFrame} {x : Cell} (hcur : S.cur < S.threads.size) (hm : f'.method = f.method) (X : At (pz_C S hp su (.java f :: r)) f.method c r)
    (h : ∀ tg, Steps p.tables e r (((pz_C S hp su (.java f :: r)).pushCell x).setTop f') tg → Steps p.tables e r ((pz_C S hp su (.java f :: r)).setTop f) tg) : pz_To p e S r c hp su f (hp ++ [x], su + x.slots.size, f') := by
  refine ⟨hm, pz_At hcur X, fun tg a => ?_⟩
  have := h tg
  rw [pz_C_pushCell, pz_C_top hcur, pz_C_top hcur] at this
  exact this a
theorem pz_inst_ok {vm : Vm} {d idx slot : Nat} {ty : FieldType} {fin : Bool} (h : pz_inst vm d idx = some (slot, ty, fin)) : ∃ c0 fd, vm.fieldReady d idx c0 fd ∧ fd.isStatic = false ∧ fd.slot = slot ∧ fd.type = ty ∧ hasFlag fd.accessFlags Acc.final = fin := by
  unfold pz_inst at h
  split at h
  · rename_i c0 fd hf
    split at h
    · rename_i hs
      cases h
      exact ⟨c0, fd, pz_fld_ok hf, hs, rfl, rfl, rfl⟩
    · cases h
  · cases h
theorem pz_stat_ok {vm : Vm} {d idx a slot : Nat} (h : pz_stat vm d idx = some (a, slot)) : ∃ c0 fd k, vm.fieldReady d idx c0 fd ∧ fd.isStatic = true ∧ fd.slot = slot ∧ vm.classes[c0]? = some k ∧ k.init = .initialized ∧ k.statics = some a := by
  unfold pz_stat at h
  split at h
  · rename_i c0 fd hf
    split at h
    · rename_i hs
      split at h
      · rename_i k hk
        split at h
        · rename_i a' h1 h2
          cases h
          exact ⟨c0, fd, k, pz_fld_ok hf, hs, rfl, hk, h1, h2⟩
        · cases h
      · cases h
    · cases h
  · cases h
theorem pz_next_some {f : JFrame} {len : Nat} {st : List Value} {q : pz_R} (h : pz_next hp su f len st = some q) : q = (hp, su, { f with pc := f.pc + len, stack := st }) := by
  unfold pz_next at h
  rw [pz_n_eq] at h
  exact (Option.some.inj h).symm
theorem pz_getfield_ok (hx : p.tables.exec = Jvm.exec) (hcur : S.cur < S.threads.size) {f : JFrame} {idx len slot a : Nat} {ty : FieldType} {fin : Bool} {st : List Value} {cl0 : Cell} {v : Value} (hd : decode c.code f.pc = .ok (.getfield idx, len)) (X : At (pz_C S hp su (.java f :: r)) f.method c r)
    (hs : f.stack = .ref a :: st) (hi : pz_inst S.vm f.method.cls idx = some (slot, ty, fin)) (hc : hp[a]? = some cl0) (hv : cl0.vm = .none) (hg : cl0.slots[slot]? = some v) : pz_To p e S r c hp su f (hp, su, { f with pc := f.pc + len, stack := v :: st }) := by
  obtain ⟨c0, fd, hr, hst, rfl, -, -⟩ := pz_inst_ok hi
  refine pz_ofTop hcur rfl X (fun tg a0 => ?_)
  have hc1 : (pz_C S hp su (.java f :: r)).heap[a]? = some cl0 := (pz_C_get ..).trans hc
  have hr1 : (pz_C S hp su (.java f :: r)).vm.fieldReady f.method.cls idx c0 fd := hr
  jvm_step X [X.top, hx, hd, getfield.wp_ready (e := e) (s := pz_C S hp su (.java f :: r)) (f := f) X.top hr1 hst hs hc1 (by rw [hv]; decide) hg]
  exact a0
theorem pz_putfield_ok (hx : p.tables.exec = Jvm.exec) (hcur : S.cur < S.threads.size) {f : JFrame} {idx len slot a : Nat} {ty : FieldType} {st : List Value} {cl0 : Cell} {x v : Value} (hd : decode c.code f.pc = .ok (.putfield idx, len)) (X : At (pz_C S hp su (.java f :: r)) f.method c r)
    (hs : f.stack = x :: .ref a :: st) (hi : pz_inst S.vm f.method.cls idx = some (slot, ty, false)) (hc : hp[a]? = some cl0) (hv : cl0.vm = .none) (hg : cl0.slots[slot]? = some v) (hfit : pz_fits S.vm cl0.cls slot (narrow ty x) = true) :
    pz_To p e S r c hp su f (hp.set a (cl0.setSlot slot (narrow ty x)), su, { f with pc := f.pc + len, stack := st }) := by
  obtain ⟨c0, fd, hr, hst, rfl, rfl, hfin⟩ := pz_inst_ok hi
  refine pz_ofCell hcur rfl X (fun tg a0 => ?_)
  have hc1 : (pz_C S hp su (.java f :: r)).heap[a]? = some cl0 := (pz_C_get ..).trans hc
  have hr1 : (pz_C S hp su (.java f :: r)).vm.fieldReady f.method.cls idx c0 fd := hr
  have hlt : fd.slot < cl0.slots.size := (Array.getElem?_eq_some_iff.mp hg).1
  have hfit1 : (pz_C S hp su (.java f :: r)).fitsSlot cl0.cls cl0.vm fd.slot (narrow fd.type x) = true := by rw [hv]; exact hfit
  jvm_step X [X.top, hx, hd, putfield.wp_ready (e := e) (s := pz_C S hp su (.java f :: r)) (f := f) X.top hr1 hst hfin hs hc1 (by rw [hv]; decide), hlt, hfit1]
  exact a0
theorem pz_getstatic_ok (hx : p.tables.exec = Jvm.exec) (hcur : S.cur < S.threads.size) {f : JFrame} {idx len slot a : Nat} {cl0 : Cell} {v : Value} {q : Nat} (hd : decode c.code f.pc = .ok (.getstatic idx, len)) (X : At (pz_C S hp su (.java f :: r)) f.method c r)
    (hi : pz_stat S.vm f.method.cls idx = some (a, slot)) (hc : hp[a]? = some cl0) (hv : cl0.vm = .statics q) (hg : cl0.slots[slot]? = some v) : pz_To p e S r c hp su f (hp, su, { f with pc := f.pc + len, stack := v :: f.stack }) := by
  obtain ⟨c0, fd, k, hr, hst, rfl, hk, hini, hsta⟩ := pz_stat_ok hi
  refine pz_ofTop hcur rfl X (fun tg a0 => ?_)
  have hc1 : (pz_C S hp su (.java f :: r)).heap[a]? = some cl0 := (pz_C_get ..).trans hc
  have hr1 : (pz_C S hp su (.java f :: r)).vm.fieldReady f.method.cls idx c0 fd := hr
  have hk1 : (pz_C S hp su (.java f :: r)).vm.classes[c0]? = some k := hk
  jvm_step X [X.top, hx, hd, getstatic.wp_ready (e := e) (s := pz_C S hp su (.java f :: r)) (f := f) X.top hr1 hst hk1 hini hsta hc1 (by rw [hv]; intro h; cases h) hg]
  exact a0
theorem pz_isArr {f : JFrame} {cl0 : Cell} (hv : cl0.vm = .none) (hi : pz_ints S.vm cl0.cls = true) : (pz_C S hp su (.java f :: r)).isArrayOf cl0 .int := ⟨fun k h => (by rw [hv] at h; cases h), pz_ints_ok hi⟩
theorem pz_iaload_ok (hx : p.tables.exec = Jvm.exec) (hcur : S.cur < S.threads.size) {f : JFrame} {len a : Nat} {j : Int32} {st : List Value} {cl0 : Cell} {v : Value} (hd : decode c.code f.pc = .ok (.iaload, len)) (X : At (pz_C S hp su (.java f :: r)) f.method c r)
    (hs : f.stack = .int j :: .ref a :: st) (hc : hp[a]? = some cl0) (hv : cl0.vm = .none) (hi : pz_ints S.vm cl0.cls = true) (hj : ¬ j < 0) (hg : cl0.slots[j.toNatClampNeg]? = some v) : pz_To p e S r c hp su f (hp, su, { f with pc := f.pc + len, stack := v :: st }) := by
  refine pz_ofTop hcur rfl X (fun tg a0 => ?_)
  have hc1 : (pz_C S hp su (.java f :: r)).heap[a]? = some cl0 := (pz_C_get ..).trans hc
  have hA := pz_isArr (S := S) (r := r) (hp := hp) (su := su) (f := f) hv hi
  have hA1 := hA.isArray
  have hlt : j.toNatClampNeg < cl0.slots.size := (Array.getElem?_eq_some_iff.mp hg).1
  have hb : ¬ (j < 0 ∨ cl0.slots.size ≤ j.toNatClampNeg) := fun h => h.elim hj (fun h => by omega)
  have hu : cl0.vm ≠ .unknown := by rw [hv]; decide
  jvm_step X [X.top, hx, hd, hs, hc1, hA1, hb, hA.1, hA.2, hu, hg]
  exact a0
theorem pz_iastore_ok (hx : p.tables.exec = Jvm.exec) (hcur : S.cur < S.threads.size) {f : JFrame} {len a : Nat} {x j : Int32} {st : List Value} {cl0 : Cell} {v : Value} (hd : decode c.code f.pc = .ok (.iastore, len)) (X : At (pz_C S hp su (.java f :: r)) f.method c r)
    (hs : f.stack = .int x :: .int j :: .ref a :: st) (hc : hp[a]? = some cl0) (hv : cl0.vm = .none) (hi : pz_ints S.vm cl0.cls = true) (hj : ¬ j < 0) (hg : cl0.slots[j.toNatClampNeg]? = some v) :
    pz_To p e S r c hp su f (hp.set a (cl0.setSlot j.toNatClampNeg (.int x)), su, { f with pc := f.pc + len, stack := st }) := by
  refine pz_ofCell hcur rfl X (fun tg a0 => ?_)
  have hc1 : (pz_C S hp su (.java f :: r)).heap[a]? = some cl0 := (pz_C_get ..).trans hc
  have hA := pz_isArr (S := S) (r := r) (hp := hp) (su := su) (f := f) hv hi
  have hA1 := hA.isArray
  have hlt : j.toNatClampNeg < cl0.slots.size := (Array.getElem?_eq_some_iff.mp hg).1
  have hb : ¬ (j < 0 ∨ cl0.slots.size ≤ j.toNatClampNeg) := fun h => h.elim hj (fun h => by omega)
  have hu : cl0.vm ≠ .unknown := by rw [hv]; decide
  have hfit : (pz_C S hp su (.java f :: r)).fitsSlot cl0.cls cl0.vm j.toNatClampNeg (.int x) = true := by
    obtain ⟨k, hk, comp, hkind⟩ := hA.2
    rw [hv]
    simp [State.fitsSlot, State.slotType?, hk, hkind, fits]
  jvm_step X [X.top, hx, hd, iastore.wp_sem, hs, hc1, hA1, hb, hu, hfit]
  refine ⟨x, j, .ref a, st, ⟨rfl, rfl, rfl, rfl⟩, cl0, hc1, hA1, ?_⟩
  rw [if_neg hb]
  exact ⟨hA, hu, hfit, a0⟩
theorem pz_length_ok (hx : p.tables.exec = Jvm.exec) (hcur : S.cur < S.threads.size) {f : JFrame} {len a : Nat} {st : List Value} {cl0 : Cell} (hd : decode c.code f.pc = .ok (.arraylength, len)) (X : At (pz_C S hp su (.java f :: r)) f.method c r)
    (hs : f.stack = .ref a :: st) (hc : hp[a]? = some cl0) (hv : cl0.vm = .none) (hi : pz_ints S.vm cl0.cls = true) : pz_To p e S r c hp su f (hp, su, { f with pc := f.pc + len, stack := .int cl0.slots.size.toInt32 :: st }) := by
  refine pz_ofTop hcur rfl X (fun tg a0 => ?_)
  have hc1 : (pz_C S hp su (.java f :: r)).heap[a]? = some cl0 := (pz_C_get ..).trans hc
  have hA := pz_isArr (S := S) (r := r) (hp := hp) (su := su) (f := f) hv hi
  have hA1 := hA.isArray
  jvm_step X [X.top, hx, hd, hs, hc1, hA1]
  exact a0
end PZ3
/-! ===== END ===== -/
end
section
/-! ===== what makes objects and arrays; one instruction of a configuration ===== -/
section PZ4
variable {p : Program} {e : Env} {r : List Frame} {S : State} {c : Code} {hp : List Cell} {su : Nat}
theorem pz_intArr_ok {vm : Vm} {cA : Nat} (h : pz_intArr vm = some cA) : vm.findClass "[I" = some cA ∧ ∃ k, vm.classes[cA]? = some k ∧ ∃ comp, k.kind = .array comp .int := by
  unfold pz_intArr at h
  split at h
  · rename_i c' hc
    split at h
    · rename_i hi
      cases h
      exact ⟨hc, pz_ints_ok hi⟩
    · cases h
  · cases h
theorem pz_newarr_ok (hx : p.tables.exec = Jvm.exec) (hcur : S.cur < S.threads.size) {f : JFrame} {len cA : Nat} {n : Int32} {st : List Value} (hd : decode c.code f.pc = .ok (.newarray .int, len)) (X : At (pz_C S hp su (.java f :: r)) f.method c r)
    (hs : f.stack = .int n :: st) (hi : pz_intArr S.vm = some cA) (hn : ¬ n < 0) (h1 : n.toNatClampNeg ≤ e.platform.arrayLengthLimit) (h2 : n.toNatClampNeg * 4 ≤ e.platform.maxHeapBytes) (h3 : hp.length < e.platform.maxCells) (h4 : su + n.toNatClampNeg ≤ e.platform.maxSlots) :
    pz_To p e S r c hp su f (hp ++ [{ cls := cA, slots := ⟨List.replicate n.toNatClampNeg (.int 0)⟩, vm := .none }], su + n.toNatClampNeg, { f with pc := f.pc + len, stack := .ref hp.length :: st }) := by
  obtain ⟨hc, k, hk, comp, hkind⟩ := pz_intArr_ok hi
  have hz : su + n.toNatClampNeg = su + ({ cls := cA, slots := ⟨List.replicate n.toNatClampNeg (.int 0)⟩, vm := .none } : Cell).slots.size := by simp
  rw [hz]
  refine pz_ofPush hcur rfl X (fun tg a0 => ?_)
  have hsz : (pz_C S hp su (.java f :: r)).heap.size = hp.length := rfl
  have hsu : (pz_C S hp su (.java f :: r)).slotsUsed = su := rfl
  have hc1 : (pz_C S hp su (.java f :: r)).vm.findClass ("[" ++ (newarray.typeOf .int).toString) = some cA := by
    rw [show "[" ++ (newarray.typeOf .int).toString = "[I" from by decide]; exact hc
  have hk1 : (pz_C S hp su (.java f :: r)).vm.classes[cA]? = some k := hk
  have hl : ¬ n.toNatClampNeg > e.platform.arrayLengthLimit := Nat.not_lt.mpr h1
  have hb : ¬ n.toNatClampNeg * componentBytes (newarray.typeOf .int) > e.platform.maxHeapBytes := Nat.not_lt.mpr h2
  have hq1 : (pz_C S hp su (.java f :: r)).heap.size < e.platform.maxCells := h3
  have hq2 : (pz_C S hp su (.java f :: r)).slotsUsed + n.toNatClampNeg ≤ e.platform.maxSlots := h4
  jvm_step X [X.top, hx, hd, newarray.wp_ready (e := e) (s := pz_C S hp su (.java f :: r)) (f := f) (atype := .int) X.top hc1 hk1 hkind hs hn hl hb, hq1, hq2]
  exact a0
theorem pz_new_ok {vm : Vm} {d idx cN : Nat} {ts : Array FieldType} (h : pz_new vm d idx = some (cN, ts)) :
    vm.classReady d idx cN ∧ ∃ k, vm.classes[cN]? = some k ∧ k.kind = .ordinary ∧ k.init = .initialized ∧ (k.isInterface || hasFlag k.accessFlags Acc.abstract) = false ∧ k.name ≠ "java/lang/Class" ∧ k.instanceTypes = ts := by
  unfold pz_new at h
  split at h
  · rename_i kd hkd
    split at h
    · rename_i c' hr
      split at h
      · rename_i k hk
        split at h
        · rename_i h1 h2
          split at h
          · rename_i h3 h4
            cases h
            refine ⟨⟨kd, hkd, hr⟩, k, hk, h1, h2, h3, ?_, rfl⟩
            intro hq
            rw [hq] at h4
            exact absurd h4 (by decide)
          · cases h
        · cases h
      · cases h
    · cases h
  · cases h
theorem pz_newobj_ok (hx : p.tables.exec = Jvm.exec) (hcur : S.cur < S.threads.size) {f : JFrame} {len idx cN : Nat} {ts : Array FieldType} (hd : decode c.code f.pc = .ok (.new idx, len)) (X : At (pz_C S hp su (.java f :: r)) f.method c r)
    (hi : pz_new S.vm f.method.cls idx = some (cN, ts)) (h3 : hp.length < e.platform.maxCells) (h4 : su + ts.size ≤ e.platform.maxSlots) :
    pz_To p e S r c hp su f (hp ++ [{ cls := cN, slots := ts.map defaultValue, vm := .none }], su + ts.size, { f with pc := f.pc + len, stack := .ref hp.length :: f.stack }) := by
  obtain ⟨hr, k, hk, hkind, hini, hcon, hname, hts⟩ := pz_new_ok hi
  subst hts
  have hz : su + k.instanceTypes.size = su + ({ cls := cN, slots := k.instanceTypes.map defaultValue, vm := .none } : Cell).slots.size := by simp
  rw [hz]
  refine pz_ofPush hcur rfl X (fun tg a0 => ?_)
  have hsz : (pz_C S hp su (.java f :: r)).heap.size = hp.length := rfl
  have hr1 : (pz_C S hp su (.java f :: r)).vm.classReady f.method.cls idx cN := hr
  have hk1 : (pz_C S hp su (.java f :: r)).vm.classes[cN]? = some k := hk
  have hq1 : (pz_C S hp su (.java f :: r)).heap.size < e.platform.maxCells := h3
  have hq2 : (pz_C S hp su (.java f :: r)).slotsUsed + k.instanceTypes.size ≤ e.platform.maxSlots := h4
  jvm_step X [X.top, hx, hd, new.wp_ready (e := e) (s := pz_C S hp su (.java f :: r)) (f := f) X.top hr1 hk1 hkind hini hcon hname, hq1, hq2]
  exact a0
theorem pz_h1_ok (hx : p.tables.exec = Jvm.exec) (hcur : S.cur < S.threads.size) {f : JFrame} {i : Instr} {len : Nat} {q : pz_R} (hd : decode c.code f.pc = .ok (i, len)) (X : At (pz_C S hp su (.java f :: r)) f.method c r)
    (h1 : pz_h1 S.vm e.platform i len hp su f = some q) : pz_To p e S r c hp su f q := by
  unfold pz_h1 at h1
  split at h1
  case h_1 idx =>
    split at h1
    · rename_i a st hs
      split at h1
      · rename_i slot ty fin hi
        rw [pz_q2_eq] at hi
        split at h1
        · rename_i cl0 hc
          split at h1
          · rename_i hv
            split at h1
            · rename_i x hg
              rw [pz_next_some h1]
              exact pz_getfield_ok hx hcur hd X hs hi hc hv hg
            · rename_i x hg
              rw [pz_next_some h1]
              exact pz_getfield_ok hx hcur hd X hs hi hc hv hg
            · rename_i hg
              rw [pz_next_some h1]
              exact pz_getfield_ok hx hcur hd X hs hi hc hv hg
            · cases h1
          · cases h1
        · cases h1
      · cases h1
    · cases h1
  case h_2 idx =>
    split at h1
    · rename_i x a st hs
      split at h1
      · rename_i slot ty hi
        rw [pz_q2_eq] at hi
        split at h1
        · rename_i cl0 hc
          split at h1
          · rename_i hv
            split at h1
            · rename_i v hg
              split at h1
              · rename_i hfit
                rw [pz_next_some h1]
                exact pz_putfield_ok hx hcur hd X hs hi hc hv hg hfit
              · cases h1
            · cases h1
          · cases h1
        · cases h1
      · cases h1
    · cases h1
  case h_3 idx =>
    split at h1
    · rename_i a slot hi
      rw [pz_q2_eq] at hi
      split at h1
      · rename_i cl0 hc
        split at h1
        · rename_i q0 hv
          split at h1
          · rename_i x hg
            rw [pz_next_some h1]
            exact pz_getstatic_ok hx hcur hd X hi hc hv hg
          · cases h1
        · cases h1
      · cases h1
    · cases h1
  case h_4 =>
    split at h1
    · rename_i j a st hs
      split at h1
      · rename_i cl0 hc
        split at h1
        · rename_i hv
          split at h1
          · rename_i hi
            split at h1
            · cases h1
            · rename_i hj
              split at h1
              · rename_i x hg
                rw [pz_next_some h1]
                exact pz_iaload_ok hx hcur hd X hs hc hv hi hj hg
              · cases h1
          · cases h1
        · cases h1
      · cases h1
    · cases h1
  case h_5 =>
    split at h1
    · rename_i x j a st hs
      split at h1
      · rename_i cl0 hc
        split at h1
        · rename_i hv
          split at h1
          · rename_i hi
            split at h1
            · cases h1
            · rename_i hj
              split at h1
              · rename_i v hg
                rw [pz_n_eq] at h1
                rw [pz_next_some h1]
                exact pz_iastore_ok hx hcur hd X hs hc hv hi hj hg
              · cases h1
          · cases h1
        · cases h1
      · cases h1
    · cases h1
  case h_6 =>
    split at h1
    · rename_i a st hs
      split at h1
      · rename_i cl0 hc
        split at h1
        · rename_i hv
          split at h1
          · rename_i hi
            rw [pz_i_eq] at h1
            rw [pz_next_some h1]
            exact pz_length_ok hx hcur hd X hs hc hv hi
          · cases h1
        · cases h1
      · cases h1
    · cases h1
  case h_7 =>
    split at h1
    · rename_i n st hs
      split at h1
      · rename_i cA hi
        split at h1
        · cases h1
        · rename_i hn
          rw [pz_n_eq, pz_n_eq] at h1
          split at h1
          · rename_i g1 g2 g3 g4
            rw [pz_n_eq] at h1
            rw [pz_next_some h1]
            exact pz_newarr_ok hx hcur hd X hs hi hn (Nat.le_of_ble_eq_true g1) (Nat.le_of_ble_eq_true g2) (Nat.le_of_ble_eq_true g3) (Nat.le_of_ble_eq_true g4)
          · cases h1
      · cases h1
    · cases h1
  case h_8 idx =>
    split at h1
    · rename_i cN ts hi
      rw [pz_q2_eq] at hi
      rw [pz_n_eq] at h1
      split at h1
      · rename_i g3 g4
        rw [pz_n_eq] at h1
        rw [pz_next_some h1]
        exact pz_newobj_ok hx hcur hd X hi (Nat.le_of_ble_eq_true g3) (Nat.le_of_ble_eq_true g4)
      · cases h1
    · cases h1
  case h_9 => cases h1
end PZ4
/-! ===== END ===== -/
end
section
/-! ===== calls and returns ===== -/
def pz_clr (vm : Vm) (d idx : Nat) : Option Nat := match vm.classes[d]? with
  | some k => match k.resolved[idx]? with
    | some (some (.cls c)) => some c
    | _ => none
  | none => none
def pz_mth (vm : Vm) (d idx : Nat) : Option MethodId := match vm.classes[d]? with
  | some k => match k.resolved[idx]? with
    | some (some (.method m)) => some m
    | _ => none
  | none => none
theorem pz_clr_ok {vm : Vm} {d idx c : Nat} (h : pz_clr vm d idx = some c) : vm.classReady d idx c := by
  unfold pz_clr at h
  split at h
  · rename_i k hk
    split at h
    · rename_i c' hr
      cases h
      exact ⟨k, hk, hr⟩
    · cases h
  · cases h
theorem pz_mth_ok {vm : Vm} {d idx : Nat} {m : MethodId} (h : pz_mth vm d idx = some m) : vm.methodReady d idx m := by
  unfold pz_mth at h
  split at h
  · rename_i k hk
    split at h
    · rename_i m' hr
      cases h
      exact ⟨k, hk, hr⟩
    · cases h
  · cases h
/-- the code of a method that takes no monitor: how many locals -/
def pz_body (vm : Vm) (m : MethodId) : Option Nat := match vm.method? m with
  | some meth => match meth.code, meth.locks with
    | some c, false => some c.maxLocals
    | _, _ => none
  | none => none
theorem pz_body_ok {vm : Vm} {m : MethodId} {L : Nat} (h : pz_body vm m = some L) : ∃ meth c, vm.method? m = some meth ∧ meth.code = some c ∧ meth.locks = false ∧ c.maxLocals = L := by
  unfold pz_body at h
  split at h
  · rename_i meth hm
    split at h
    · rename_i c h1 h2
      cases h
      exact ⟨meth, c, hm, h1, h2, rfl⟩
    · cases h
  · cases h
def pz_pref (e : Env) (vm : Vm) (d idx : Nat) : Bool := match ((memberRef d idx).ask e.toSetting vm).1 with
  | .ok (ci, _, _, _) => match pz_clr vm d ci with
    | some c' => match vm.classes[c']? with
      | some k' => !(k'.name == "java/lang/invoke/MethodHandle" || k'.name == "java/lang/invoke/VarHandle")
      | none => false
    | none => false
  | .error _ => false
theorem pz_pref_ok {e : Env} {s : State} {d idx : Nat} (h : pz_pref e s.vm d idx = true) : plainRef s e d idx := by
  unfold pz_pref at h
  split at h
  · rename_i ci name desc b hr
    split at h
    · rename_i c' hc
      split at h
      · rename_i k' hk
        have h0 : (k'.name == "java/lang/invoke/MethodHandle" || k'.name == "java/lang/invoke/VarHandle") = false := by
          rw [Bool.not_eq_true'] at h
          exact h
        have h1 : ∀ x, signaturePolymorphic k' x = false := fun x => by
          unfold signaturePolymorphic
          rw [h0]
          rfl
        exact ⟨ci, name, desc, b, c', k', hr, pz_clr_ok hc, hk, by simp [h1]⟩
      · cases h
    · cases h
  · cases h
/-- a static call: the method, its parameters, its locals -/
def pz_st (e : Env) (vm : Vm) (d idx : Nat) : Option (MethodId × Nat × Nat) := match pz_pref e vm d idx with
  | true => match pz_mth vm d idx with
    | some m => match vm.classes[m.cls]? with
      | some k => match vm.method? m with
        | some meth => match signaturePolymorphic k meth, meth.isStatic, k.init with
          | false, true, .initialized => match pz_body vm m with
            | some L => some (m, meth.sig.parameters.length, L)
            | none => none
          | _, _, _ => none
        | none => none
      | none => none
    | none => none
  | false => none
theorem pz_st_ok {e : Env} {s : State} {d idx n L : Nat} {m : MethodId} (h : pz_st e s.vm d idx = some (m, n, L)) :
    plainRef s e d idx ∧ s.vm.methodReady d idx m ∧ ∃ k meth c, s.vm.classes[m.cls]? = some k ∧ s.vm.method? m = some meth ∧ signaturePolymorphic k meth = false ∧ meth.isStatic = true ∧ k.init = .initialized ∧ meth.sig.parameters.length = n ∧
      meth.code = some c ∧ meth.locks = false ∧ c.maxLocals = L := by
  unfold pz_st at h
  split at h
  · rename_i hp
    split at h
    · rename_i m' hm
      split at h
      · rename_i k hk
        split at h
        · rename_i meth hmeth
          split at h
          · rename_i h1 h2 h3
            split at h
            · rename_i L' hb
              cases h
              obtain ⟨meth', c, q1, q2, q3, q4⟩ := pz_body_ok hb
              cases hmeth.symm.trans q1
              exact ⟨pz_pref_ok hp, pz_mth_ok hm, k, meth, c, hk, hmeth, h1, h2, h3, rfl, q2, q3, q4⟩
            · cases h
          · cases h
        · cases h
      · cases h
    · cases h
  · cases h
def pz_named (vm : Vm) (d idx : Nat) : Bool := match vm.classes[d]? with
  | some kc => match kc.cf with
    | some cf => match cf.constantPool[idx]? with
      | some (.methodref ci _) => match pz_clr vm d ci with
        | some c' => match vm.classes[c']? with
          | some k' => !k'.isInterface
          | none => false
        | none => false
      | _ => false
    | none => false
  | none => false
theorem pz_named_ok {s : State} {d idx : Nat} (h : pz_named s.vm d idx = true) : namesAClass s d idx := by
  unfold pz_named at h
  split at h
  · rename_i kc hkc
    split at h
    · rename_i cf hcf
      split at h
      · rename_i ci n hr
        split at h
        · rename_i c' hc
          split at h
          · rename_i k' hk
            exact ⟨kc, cf, ci, n, c', k', hkc, hcf, hr, pz_clr_ok hc, hk, by simpa using h⟩
          · cases h
        · cases h
      · cases h
    · cases h
  · cases h
/-- a virtual call: the method that is named, and its parameters -/
def pz_vt (vm : Vm) (d idx : Nat) : Option (MethodId × Nat) := match pz_named vm d idx with
  | true => match pz_mth vm d idx with
    | some r => match vm.classes[r.cls]? with
      | some k => match vm.method? r with
        | some rm => match signaturePolymorphic k rm, rm.isStatic with
          | false, false => some (r, rm.sig.parameters.length)
          | _, _ => none
        | none => none
      | none => none
    | none => none
  | false => none
theorem pz_vt_ok {s : State} {d idx n : Nat} {r : MethodId} (h : pz_vt s.vm d idx = some (r, n)) :
    namesAClass s d idx ∧ s.vm.methodReady d idx r ∧ ∃ k rm, s.vm.classes[r.cls]? = some k ∧ s.vm.method? r = some rm ∧ signaturePolymorphic k rm = false ∧ rm.isStatic = false ∧ rm.sig.parameters.length = n := by
  unfold pz_vt at h
  split at h
  · rename_i hp
    split at h
    · rename_i m' hm
      split at h
      · rename_i k hk
        split at h
        · rename_i rm hrm
          split at h
          · rename_i h1 h2
            cases h
            exact ⟨pz_named_ok hp, pz_mth_ok hm, k, rm, hk, hrm, h1, h2, rfl⟩
          · cases h
        · cases h
      · cases h
    · cases h
  · cases h
/-- the method that is selected for an object's class -/
def pz_sel (pl : Platform) (vm : Vm) (cc : Nat) (r : MethodId) : Option (MethodId × Nat) := match selectMethod pl vm cc r with
  | .method m => match vm.method? m with
    | some meth => match meth.isAbstract, vm.classes[m.cls]? with
      | false, some kM => match kM.isInterface, pz_body vm m with
        | false, some L => some (m, L)
        | _, _ => none
      | _, _ => none
    | none => none
  | _ => none
theorem pz_sel_ok {pl : Platform} {vm : Vm} {cc L : Nat} {r m : MethodId} (h : pz_sel pl vm cc r = some (m, L)) :
    selectMethod pl vm cc r = .method m ∧ ∃ meth mk c, vm.method? m = some meth ∧ meth.isAbstract = false ∧ vm.classes[m.cls]? = some mk ∧ mk.isInterface = false ∧ meth.code = some c ∧ meth.locks = false ∧ c.maxLocals = L := by
  unfold pz_sel at h
  split at h
  · rename_i m' hs
    split at h
    · rename_i meth hm
      split at h
      · rename_i mk h1 hmk
        split at h
        · rename_i L' h2 hb
          cases h
          obtain ⟨meth', c, q1, q2, q3, q4⟩ := pz_body_ok hb
          cases hm.symm.trans q1
          exact ⟨hs, meth, mk, c, hm, h1, hmk, h2, q2, q3, q4⟩
        · cases h
      · cases h
    · cases h
  · cases h
/-- a special call -/
def pz_sp (vm : Vm) (d idx : Nat) : Option (MethodId × Nat × Nat) := match pz_mth vm d idx with
  | some r0 => match vm.method? r0, vm.classes[d]? with
    | some r, some ck => match ck.cf with
      | some cf => match cf.constantPool[idx]? with
        | some (.methodref ci _) => match pz_clr vm d ci with
          | some named => match vm.classes[named]? with
            | some nk => match r.name == "<init>" && r0.cls != named, r.isStatic, ck.isInterface, r.isAbstract, vm.classes[r0.cls]? with
              | false, false, false, false, some _ => match lookupSpecial vm (if r.name != "<init>" && !nk.isInterface && (named != d && vm.isSubclass d named) then ck.super.getD named else named) r.name r.desc with
                | .method m => if m = r0 then match pz_body vm r0 with
                    | some L => some (r0, r.sig.parameters.length, L)
                    | none => none
                  else none
                | _ => none
              | _, _, _, _, _ => none
            | none => none
          | none => none
        | _ => none
      | none => none
    | _, _ => none
  | none => none
/-! ===== END ===== -/
end
section
/-! ===== the frames behind a call and behind a return ===== -/
def pz_room (pl : Platform) (fs : List Frame) (L : Nat) : Bool := match Nat.blt fs.length pl.maxFrames with
  | true => Nat.ble ((stackUse fs).2 + L + 11) pl.maxStackSlots
  | false => false
def pz_enter (pl : Platform) (f : JFrame) (r : List Frame) (m : MethodId) (L : Nat) (args st : List Value) : Option (List Frame) := match pz_room pl (.java { f with stack := st } :: r) L with
  | true => some (.java { method := m, pc := 0, locals := argsToLocals args.toArray L, stack := [], locked := none } :: .java { f with stack := st } :: r)
  | false => none
/-- the thread has no size of its own -/
def pz_thr (S : State) : Bool := match S.threads[S.cur]? with
  | some t => Nat.beq t.stackBytes 0
  | none => false
theorem pz_thr_cur {S : State} (h : pz_thr S = true) : S.cur < S.threads.size := by
  unfold pz_thr at h
  split at h
  · rename_i t ht
    exact (Array.getElem?_eq_some_iff.mp ht).1
  · cases h
theorem pz_C_thread {S : State} {hp : List Cell} {su : Nat} {fs : List Frame} (h : pz_thr S = true) : (((pz_C S hp su fs).threads[(pz_C S hp su fs).cur]?).getD { frames := [] }).stackBytes = 0 := by
  unfold pz_thr at h
  split at h
  · rename_i t ht
    have h1 : (pz_C S hp su fs).threads[(pz_C S hp su fs).cur]? = some { t with frames := fs } := by
      show (S.threads.modify S.cur fun t => { t with frames := fs })[S.cur]? = _
      rw [Array.getElem?_modify, if_pos rfl, ht]
      rfl
    rw [h1]
    exact Nat.eq_of_beq_eq_true h
  · cases h
section PZ5
variable {p : Program} {e : Env} {r fs : List Frame} {S : State} {c : Code} {hp : List Cell} {su : Nat}
theorem pz_invoke_ok (hT : pz_thr S = true) {f : JFrame} {m : MethodId} {L : Nat} {args st : List Value} {meth : Method} {c0 : Code} (hm : S.vm.method? m = some meth) (hc : meth.code = some c0) (hl : meth.locks = false) (hL : c0.maxLocals = L)
    (h : pz_enter e.platform f r m L args st = some fs) (acts : List Action) : (doInvoke e (pz_C S hp su (.java { f with stack := st } :: r)) acts m args.toArray).1 = pz_C S hp su fs := by
  have hcur := pz_thr_cur hT
  subst hL
  unfold pz_enter at h
  split at h
  · rename_i hr
    cases h
    have hroom : e.platform.stackFull (((pz_C S hp su (.java { f with stack := st } :: r)).threads[(pz_C S hp su (.java { f with stack := st } :: r)).cur]?).getD { frames := [] }) (pz_C S hp su (.java { f with stack := st } :: r)).frames c0.maxLocals = false := by
      rw [pz_C_frames hcur]
      unfold pz_room at hr
      split at hr
      · rename_i h1
        exact Platform.stackFull_plain (pz_C_thread hT) (Nat.le_of_ble_eq_true h1) (Nat.le_of_ble_eq_true hr)
      · cases hr
    have h2 := (doInvoke_java (e := e) (s := pz_C S hp su (.java { f with stack := st } :: r)) (acts := acts) (m := m) (args := args.toArray) (meth := meth) (code := c0) hm hc hl hroom).1
    rw [h2]
    show (pz_C S hp su (.java { f with stack := st } :: r)).setFrames (_ :: (pz_C S hp su (.java { f with stack := st } :: r)).frames) = _
    rw [pz_C_frames hcur]
    exact State.setFrames_setFrames _ _ _
  · cases h
/-- the arguments of a call on the stack -/
def pz_args (n : Nat) (st : List Value) : Option (List Value × List Value) := match Nat.beq (st.take n).length n with
  | true => some ((st.take n).reverse, st.drop n)
  | false => none
theorem pz_args_ok {n : Nat} {st a b : List Value} (h : pz_args n st = some (a, b)) : a.length = n ∧ st = a.reverse ++ b := by
  unfold pz_args at h
  split at h
  · rename_i hn
    cases h
    refine ⟨by rw [List.length_reverse]; exact Nat.eq_of_beq_eq_true hn, by rw [List.reverse_reverse, List.take_append_drop]⟩
  · cases h
theorem pz_static_ok (hx : p.tables.exec = Jvm.exec) (hT : pz_thr S = true) {f : JFrame} {idx len n L : Nat} {m : MethodId} {args st : List Value} (hd : decode c.code f.pc = .ok (.invokestatic idx, len)) (X : At (pz_C S hp su (.java f :: r)) f.method c r)
    (hi : pz_st e S.vm f.method.cls idx = some (m, n, L)) (ha : pz_args n f.stack = some (args, st)) (hen : pz_enter e.platform f r m L args st = some fs) (tg : State)
    (a0 : Steps p.tables e r (pz_C S hp su fs) tg) : Steps p.tables e r (pz_C S hp su (.java f :: r)) tg := by
  have hcur := pz_thr_cur hT
  obtain ⟨hlen, hst⟩ := pz_args_ok ha
  obtain ⟨h1, h2, k, meth, c0, h3, h4, h5, h6, h7, h8, h9, h10, h11⟩ := pz_st_ok (s := pz_C S hp su (.java f :: r)) hi
  have hself : (pz_C S hp su (.java f :: r)).setTop f = pz_C S hp su (.java f :: r) := pz_C_top hcur
  rw [← hself]
  jvm_step X [X.top, hx, hd, invokestatic.wp_ready (e := e) (s := pz_C S hp su (.java f :: r)) (f := f) (args := args) (rest := st) X.top h1 h2 h3 h4 h5 h6 h7 (hlen.trans h8.symm) hst]
  rw [pz_C_top hcur]
  first
  | (intro acts; rw [pz_invoke_ok hT (S := S) (hp := hp) (su := su) h4 h9 h10 h11 hen acts]; exact a0)
  | (rw [pz_invoke_ok hT (S := S) (hp := hp) (su := su) h4 h9 h10 h11 hen _]; exact a0)
theorem pz_virtual_ok (hx : p.tables.exec = Jvm.exec) (hT : pz_thr S = true) {f : JFrame} {idx len n L a : Nat} {r0 m : MethodId} {args st : List Value} {cl0 : Cell} (hd : decode c.code f.pc = .ok (.invokevirtual idx, len)) (X : At (pz_C S hp su (.java f :: r)) f.method c r)
    (hi : pz_vt S.vm f.method.cls idx = some (r0, n)) (ha : pz_args n f.stack = some (args, .ref a :: st)) (hc : hp[a]? = some cl0) (hv : cl0.vm = .none) (hsel : pz_sel e.platform S.vm cl0.cls r0 = some (m, L))
    (hen : pz_enter e.platform f r m L (.ref a :: args) st = some fs) (tg : State)
    (a0 : Steps p.tables e r (pz_C S hp su fs) tg) : Steps p.tables e r (pz_C S hp su (.java f :: r)) tg := by
  have hcur := pz_thr_cur hT
  obtain ⟨hlen, hst⟩ := pz_args_ok ha
  obtain ⟨h1, h2, k, rm, h3, h4, h5, h6, h7⟩ := pz_vt_ok (s := pz_C S hp su (.java f :: r)) hi
  obtain ⟨g1, meth, kM, c0, g2, g3, g4, g5, g6, g7, g8⟩ := pz_sel_ok hsel
  have hself : (pz_C S hp su (.java f :: r)).setTop f = pz_C S hp su (.java f :: r) := pz_C_top hcur
  have hc1 : (pz_C S hp su (.java f :: r)).heap[a]? = some cl0 := (pz_C_get ..).trans hc
  rw [← hself]
  jvm_step X [X.top, hx, hd, invokevirtual.wp_ready (e := e) (s := pz_C S hp su (.java f :: r)) (f := f) (args := args) (rest := st) (m := m) (meth := meth) (mk := kM) X.top h1 h2 h3 h4 h5 h6 (hlen.trans h7.symm) hst hc1 (fun q hq => by rw [hv] at hq; cases hq) g1 g2 g3 g4 g5]
  rw [pz_C_top hcur]
  first
  | (intro acts; rw [pz_invoke_ok hT (S := S) (hp := hp) (su := su) g2 g6 g7 g8 hen acts]; exact a0)
  | (rw [pz_invoke_ok hT (S := S) (hp := hp) (su := su) g2 g6 g7 g8 hen _]; exact a0)
end PZ5
/-! ===== END ===== -/
end
section
/-! ===== special calls, returns ===== -/
section PZ6
variable {p : Program} {e : Env} {r fs : List Frame} {S : State} {c : Code} {hp : List Cell} {su : Nat}
theorem pz_sp_ok {vm : Vm} {d idx n L : Nat} {m : MethodId} (h : pz_sp vm d idx = some (m, n, L)) :
    ∃ ci nt named ck nk kM cf meth c0, vm.methodReady d idx m ∧ vm.method? m = some meth ∧ vm.classes[d]? = some ck ∧ ck.cf = some cf ∧ cf.constantPool[idx]? = some (.methodref ci nt) ∧ vm.classReady d ci named ∧ vm.classes[named]? = some nk ∧
      (meth.name == "<init>" && m.cls != named) = false ∧ meth.isStatic = false ∧ ck.isInterface = false ∧ meth.isAbstract = false ∧ vm.classes[m.cls]? = some kM ∧
      lookupSpecial vm (if meth.name != "<init>" && !nk.isInterface && (named != d && vm.isSubclass d named) then ck.super.getD named else named) meth.name meth.desc = .method m ∧ meth.sig.parameters.length = n ∧
      meth.code = some c0 ∧ meth.locks = false ∧ c0.maxLocals = L := by
  unfold pz_sp at h
  split at h
  · rename_i r0 hr0
    split at h
    · rename_i rm ck hrm hck
      split at h
      · rename_i cf hcf
        split at h
        · rename_i ci nt hcp
          split at h
          · rename_i named hn
            split at h
            · rename_i nk hnk
              split at h
              · rename_i kM h1 h2 h3 h4 h5
                split at h
                · rename_i m' hl
                  split at h
                  · rename_i hm
                    split at h
                    · rename_i L' hb
                      cases h
                      subst hm
                      obtain ⟨meth', c0, q1, q2, q3, q4⟩ := pz_body_ok hb
                      cases hrm.symm.trans q1
                      exact ⟨ci, nt, named, ck, nk, kM, cf, rm, c0, pz_mth_ok hr0, hrm, hck, hcf, hcp, pz_clr_ok hn, hnk, h1, h2, h3, h4, h5, hl, rfl, q2, q3, q4⟩
                    · cases h
                  · cases h
                · cases h
              · cases h
            · cases h
          · cases h
        · cases h
      · cases h
    · cases h
  · cases h
theorem pz_special_ok (hx : p.tables.exec = Jvm.exec) (hT : pz_thr S = true) {f : JFrame} {idx len n L a : Nat} {m : MethodId} {args st : List Value} {cl0 : Cell} {kc : Class} (hd : decode c.code f.pc = .ok (.invokespecial idx, len)) (X : At (pz_C S hp su (.java f :: r)) f.method c r)
    (hi : pz_sp S.vm f.method.cls idx = some (m, n, L)) (ha : pz_args n f.stack = some (args, .ref a :: st)) (hc : hp[a]? = some cl0) (hv : cl0.vm = .none) (hkc : S.vm.classes[cl0.cls]? = some kc)
    (hen : pz_enter e.platform f r m L (.ref a :: args) st = some fs) (tg : State)
    (a0 : Steps p.tables e r (pz_C S hp su fs) tg) : Steps p.tables e r (pz_C S hp su (.java f :: r)) tg := by
  have hcur := pz_thr_cur hT
  obtain ⟨hlen, hst⟩ := pz_args_ok ha
  obtain ⟨ci, nt, named, ck, nk, kM, cf, meth, c0, h1, h2, h3, h4, h5, h6, h7, h8, h9, h10, h11, h12, h13, h14, h15, h16, h17⟩ := pz_sp_ok hi
  have hself : (pz_C S hp su (.java f :: r)).setTop f = pz_C S hp su (.java f :: r) := pz_C_top hcur
  have hc1 : (pz_C S hp su (.java f :: r)).heap[a]? = some cl0 := (pz_C_get ..).trans hc
  rw [← hself]
  jvm_step X [X.top, hx, hd, invokespecial.wp_ready (e := e) (s := pz_C S hp su (.java f :: r)) (f := f) (args := args) (rest := st) (m := m) (meth := meth) (mk := kM) (ck := ck) (nk := nk) (kcell := kc) X.top h1 h2 h3 h4 h5 h6 h7 h8 h9 h13 rfl (Or.inr (Or.inl h10)) h2 h12 h11 (hlen.trans h14.symm) hst hc1 (fun q hq => by rw [hv] at hq; cases hq) hkc]
  rw [pz_C_top hcur]
  first
  | (intro acts; rw [pz_invoke_ok hT (S := S) (hp := hp) (su := su) h2 h15 h16 h17 hen acts]; exact a0)
  | (rw [pz_invoke_ok hT (S := S) (hp := hp) (su := su) h2 h15 h16 h17 hen _]; exact a0)
/-- the frames behind a return -/
def pz_back (vm : Vm) (f : JFrame) (r : List Frame) (v : Option Value) : Option (List Frame) := match r with
  | .java g :: r' => match vm.method? f.method with
    | some meth => match meth.locks, f.locked, f.entered with
      | false, none, [] => match State.code? ({ vm := vm } : State) g.method with
        | some cg => match pz_dec cg.code g.pc with
          | some (_, len) => pz_n (g.pc + len) fun pc => some (.java { g with pc := pc, stack := v.toList ++ g.stack } :: r')
          | none => none
        | none => none
      | _, _, _ => none
    | none => none
  | _ => none
theorem pz_dec_ok {b : ByteArray} {pc : Nat} {q : Instr × Nat} (h : pz_dec b pc = some q) : decode b pc = .ok q := by
  unfold pz_dec at h
  rw [pz_n_eq] at h
  split at h
  · rename_i r hr
    cases h
    exact hr
  · cases h
theorem pz_back_ok (hcur : S.cur < S.threads.size) {f f1 : JFrame} {v : Option Value} (hm : f1.method = f.method) (hl : f1.locked = f.locked) (hn : f1.entered = f.entered) (h : pz_back S.vm f r v = some fs) (acts : List Action) :
    (doReturn e (pz_C S hp su (.java f1 :: r)) acts v).1 = pz_C S hp su fs := by
  unfold pz_back at h
  split at h
  · rename_i g r'
    split at h
    · rename_i meth hmeth
      split at h
      · rename_i h1 h2 h3
        split at h
        · rename_i cg hcg
          split at h
          · rename_i i len hd
            rw [pz_n_eq] at h
            cases h
            have h4 := (doReturn_java (e := e) (s := pz_C S hp su (.java f1 :: .java g :: r')) (acts := acts) (v := v) (f := f1) (g := g) (r := r') (meth := meth) (cg := cg) (ig := i) (len := len) (pz_C_frames hcur) (by rw [hm]; exact hmeth) h1 (hl.trans h2) (hn.trans h3) hcg (pz_dec_ok hd)).1
            rw [h4]
            exact State.setFrames_setFrames _ _ _
          · cases h
        · cases h
      · cases h
    · cases h
  · cases h
/-- an instruction that returns -/
def pz_ret (vm : Vm) (i : Instr) (f : JFrame) (r : List Frame) : Option (List Frame) := match i with
  | .return_ => pz_back vm f r none
  | .ireturn => match f.stack with
    | .int x :: _ => match vm.method? f.method with
      | some meth => match meth.sig.returnType with
        | some t => match narrow t (.int x) with
          | .int y => pz_i y fun y => pz_back vm f r (some (.int y))
          | _ => none
        | none => none
      | none => none
    | _ => none
  | _ => none
theorem pz_ret_ok (hx : p.tables.exec = Jvm.exec) (hcur : S.cur < S.threads.size) {f : JFrame} {i : Instr} {len : Nat} (hd : decode c.code f.pc = .ok (i, len)) (X : At (pz_C S hp su (.java f :: r)) f.method c r)
    (h : pz_ret S.vm i f r = some fs) (tg : State) (a0 : pz_C S hp su fs = tg) : Steps p.tables e r (pz_C S hp su (.java f :: r)) tg := by
  subst a0
  have hself : (pz_C S hp su (.java f :: r)).setTop f = pz_C S hp su (.java f :: r) := pz_C_top hcur
  unfold pz_ret at h
  split at h
  · rw [← hself]
    jvm_step X [X.top, hx, hd]
    have hb := pz_back_ok (e := e) (hp := hp) (su := su) (S := S) hcur (f1 := f) rfl rfl rfl h
    rw [hself]
    first
    | (intro acts; rw [hb acts]; exact Steps.refl _)
    | (rw [hb _]; exact Steps.refl _)
  · split at h
    · rename_i x st hs
      split at h
      · rename_i meth hm
        split at h
        · rename_i t ht
          split at h
          · rename_i y hy
            rw [pz_i_eq] at h
            have hm1 : (pz_C S hp su (.java f :: r)).vm.method? f.method = some meth := hm
            rw [← hself]
            jvm_step X [X.top, hx, hd, hs, hm1, ht, hy]
            have hb := pz_back_ok (e := e) (hp := hp) (su := su) (S := S) hcur (f1 := { f with stack := st }) rfl rfl rfl h
            rw [pz_C_top hcur]
            first
            | (intro acts; rw [hb acts]; exact Steps.refl _)
            | (rw [hb _]; exact Steps.refl _)
          · cases h
        · cases h
      · cases h
    · cases h
  · cases h
end PZ6
/-! ===== END ===== -/
end
section
/-! ===== the run of a configuration ===== -/
noncomputable def pz_lq {α β : Type} (l : List α) (k : List α → β) : β := List.rec (motive := fun _ => (List α → β) → β) (fun k => k []) (fun a _ ih k => ih fun t => k (a :: t)) l k
theorem pz_lq_eq {α β : Type} (l : List α) : ∀ k : List α → β, pz_lq l k = k l := by
  induction l with
  | nil => intro k; rfl
  | cons a l ih => intro k; exact ih fun t => k (a :: t)
def pz_fr {β : Type} (f : JFrame) (k : JFrame → β) : β := match f with
  | ⟨h1, h2, h3, h4, h5, h6, h7⟩ => k ⟨h1, h2, h3, h4, h5, h6, h7⟩
theorem pz_fr_eq {β : Type} (f : JFrame) (k : JFrame → β) : pz_fr f k = k f := by cases f; rfl
def pz_ss {β : Type} (s : State) (k : State → β) : β := match s with
  | ⟨h1, h2, h3, h4, h5, h6, h7, h8, h9⟩ => k ⟨h1, h2, h3, h4, h5, h6, h7, h8, h9⟩
theorem pz_ss_eq {β : Type} (s : State) (k : State → β) : pz_ss s k = k s := by cases s; rfl
def pz_code (vm : Vm) (m : MethodId) : Option ByteArray := match vm.classes[m.cls]? with
  | some k => match plainName k.name with
    | true => match k.methods[m.idx]? with
      | some meth => match meth.code with
        | some c => some c.code
        | none => none
      | none => none
    | false => none
  | none => none
def pz_live (S : State) : Bool := match S.status, S.curStatus?, S.alone with
  | .running, some .runnable, true => true
  | _, _, _ => false
def pz_jump (e : Env) (vm : Vm) (i : Instr) (hp : List Cell) (f : JFrame) (r : List Frame) : Option (List Frame) := match i with
  | .invokestatic idx => match pz_q2 f.method.cls idx fun d j => pz_st e vm d j with
    | some (m, n, L) => match pz_args n f.stack with
      | some (args, st) => pz_enter e.platform f r m L args st
      | none => none
    | none => none
  | .invokevirtual idx => match pz_q2 f.method.cls idx fun d j => pz_vt vm d j with
    | some (r0, n) => match pz_args n f.stack with
      | some (args, .ref a :: st) => match hp[a]? with
        | some cl0 => match cl0.vm with
          | .none => match pz_n cl0.cls fun cc => pz_sel e.platform vm cc r0 with
            | some (m, L) => pz_enter e.platform f r m L (.ref a :: args) st
            | none => none
          | _ => none
        | none => none
      | _ => none
    | none => none
  | .invokespecial idx => match pz_q2 f.method.cls idx fun d j => pz_sp vm d j with
    | some (m, n, L) => match pz_args n f.stack with
      | some (args, .ref a :: st) => match hp[a]? with
        | some cl0 => match cl0.vm with
          | .none => match vm.classes[cl0.cls]? with
            | some _ => pz_enter e.platform f r m L (.ref a :: args) st
            | none => none
          | _ => none
        | none => none
      | _ => none
    | none => none
  | i => pz_ret vm i f r
/-- one instruction that isn't the frame's alone -/
def pz_far (e : Env) (vm : Vm) (b : ByteArray) (hp : List Cell) (su : Nat) (f : JFrame) (r : List Frame) : Option (List Cell × Nat × List Frame) := match pz_dec b f.pc with
  | some (i, len) => match pz_f2 i len f with
    | some f' => some (hp, su, .java f' :: r)
    | none => match pz_h1 vm e.platform i len hp su f with
      | some (hp', su', f') => some (hp', su', .java f' :: r)
      | none => match pz_jump e vm i hp f r with
        | some fs => some (hp, su, fs)
        | none => none
  | none => none
abbrev pz_A : Type := Bool × List Cell × Nat × List Frame
/-- many instructions; then one that isn't the frame's alone, if it's known -/
def pz_one (e : Env) (vm : Vm) (hp : List Cell) (su : Nat) (fs : List Frame) : pz_A := match fs with
  | .java f :: b :: r => match pz_q2 f.method.cls f.method.idx fun i j => pz_code vm ⟨i, j⟩ with
    | some bs => pz_fr (pz_fast bs 400 f) fun f0 => match pz_far e vm bs hp su f0 (b :: r) with
      | some (hp', su', fs') => (true, hp', su', fs')
      | none => (false, hp, su, .java f0 :: b :: r)
    | none => (false, hp, su, fs)
  | _ => (false, hp, su, fs)
def pz_enough (hs : Nat) (hp : List Cell) (fs : List Frame) : Bool := match fs with
  | .throwing _ :: _ => Nat.blt hs hp.length
  | _ => false
noncomputable def pz_go (tb : Tables) (e : Env) (hs : Nat) : Nat → State → List Cell → Nat → List Frame → Bool
  | 0, _, _, _, _ => false
  | n + 1, S, hp, su, fs => match pz_one e S.vm hp su fs with
    | (true, hp', su', fs') => pz_go tb e hs n S hp' su' fs'
    | (false, hp', su', fs') => match pz_enough hs hp' fs' with
      | true => true
      | false => match pz_chk (pz_C S hp' su' fs') with
        | false => false
        | true => pz_ss (stepThread tb e (pz_C S hp' su' fs')).1 fun S' => match pz_thr S', pz_live S', S'.heap with
          | true, true, ⟨l⟩ => pz_lq l fun l => pz_n S'.slotsUsed fun u => pz_go tb e hs n S' l u S'.frames
          | _, _, _ => false
section PZ7
variable {p : Program} {e : Env} {S : State}
theorem pz_live_ok (h : pz_live S = true) : S.status = .running ∧ S.curStatus? = some .runnable ∧ S.alone = true := by
  unfold pz_live at h
  split at h
  · rename_i h1 h2 h3
    exact ⟨h1, h2, h3⟩
  · cases h
theorem pz_mkAt (hT : pz_thr S = true) (hL : pz_live S = true) {hp : List Cell} {su : Nat} {f : JFrame} {r : List Frame} {b : ByteArray} (h : pz_code S.vm f.method = some b) : ∃ c, c.code = b ∧ At (pz_C S hp su (.java f :: r)) f.method c r := by
  have hcur := pz_thr_cur hT
  obtain ⟨h1, h2, h3⟩ := pz_live_ok hL
  unfold pz_code at h
  split at h
  · rename_i k hk
    split at h
    · rename_i hpl
      split at h
      · rename_i meth hm
        split at h
        · rename_i c hc
          cases h
          refine ⟨c, rfl, ?_, ⟨[], by rw [pz_C_frames hcur]; rfl⟩, h1, ?_, ?_, ?_, ?_⟩
          · rw [State.topJava?_of_frames (pz_C_frames hcur)]; rfl
          · have a1 : (pz_C S hp su (.java f :: r)).curStatus? = ({ S with heap := ⟨hp⟩, slotsUsed := su } : State).curStatus? := by unfold pz_C; simp
            rw [a1]; exact h2
          · have a1 : (pz_C S hp su (.java f :: r)).alone = ({ S with heap := ⟨hp⟩, slotsUsed := su } : State).alone := State.alone_setFrames _ _
            rw [a1]; exact h3
          · show State.code? (pz_C S hp su (.java f :: r)) f.method = some c
            have hk1 : (pz_C S hp su (.java f :: r)).vm.classes[f.method.cls]? = some k := hk
            unfold State.code?
            simp [hk1, hm, hc]
          · intro k' hk'
            have hk1 : (pz_C S hp su (.java f :: r)).vm.classes[f.method.cls]? = some k := hk
            cases hk1.symm.trans hk'
            rw [hpl]; rfl
        · cases h
      · cases h
    · cases h
  · cases h
theorem pz_jump_ok (hx : p.tables.exec = Jvm.exec) (hT : pz_thr S = true) {c : Code} {hp : List Cell} {su : Nat} {f : JFrame} {r fs : List Frame} {i : Instr} {len : Nat} (hd : decode c.code f.pc = .ok (i, len)) (X : At (pz_C S hp su (.java f :: r)) f.method c r)
    (h : pz_jump e S.vm i hp f r = some fs) : Steps p.tables e r (pz_C S hp su (.java f :: r)) (pz_C S hp su fs) := by
  unfold pz_jump at h
  split at h
  · split at h
    · rename_i m n L hi
      rw [pz_q2_eq] at hi
      split at h
      · rename_i args st ha
        exact pz_static_ok hx hT hd X hi ha h _ (Steps.refl _)
      · cases h
    · cases h
  · split at h
    · rename_i r0 n hi
      rw [pz_q2_eq] at hi
      split at h
      · rename_i args a st ha
        split at h
        · rename_i cl0 hc
          split at h
          · rename_i hv
            split at h
            · rename_i m L hsel
              rw [pz_n_eq] at hsel
              exact pz_virtual_ok hx hT hd X hi ha hc hv hsel h _ (Steps.refl _)
            · cases h
          · cases h
        · cases h
      · cases h
    · cases h
  · split at h
    · rename_i m n L hi
      rw [pz_q2_eq] at hi
      split at h
      · rename_i args a st ha
        split at h
        · rename_i cl0 hc
          split at h
          · rename_i hv
            split at h
            · rename_i kc hkc
              exact pz_special_ok hx hT hd X hi ha hc hv hkc h _ (Steps.refl _)
            · cases h
          · cases h
        · cases h
      · cases h
    · cases h
  · exact pz_ret_ok hx (pz_thr_cur hT) hd X h _ rfl
theorem pz_far_ok (hx : p.tables.exec = Jvm.exec) (hT : pz_thr S = true) {c : Code} {hp hp' : List Cell} {su su' : Nat} {f : JFrame} {r fs : List Frame} (X : At (pz_C S hp su (.java f :: r)) f.method c r)
    (h : pz_far e S.vm c.code hp su f r = some (hp', su', fs)) : Steps p.tables e r (pz_C S hp su (.java f :: r)) (pz_C S hp' su' fs) := by
  have hcur := pz_thr_cur hT
  have hself : (pz_C S hp su (.java f :: r)).setTop f = pz_C S hp su (.java f :: r) := pz_C_top hcur
  unfold pz_far at h
  split at h
  · rename_i i len hd0
    have hd := pz_dec_ok hd0
    split at h
    · rename_i f' h2
      cases h
      have := (pz_f2_ok (p := p) (e := e) (tg := (pz_C S hp su (.java f :: r)).setTop f') hx hd h2 X).2 (Steps.refl _)
      rw [hself, pz_C_top hcur] at this
      exact this
    · split at h
      · rename_i hp1 su1 f1 h3
        cases h
        exact (pz_h1_ok hx hcur hd X h3).2.2 _ (Steps.refl _)
      · split at h
        · rename_i fs' h4
          cases h
          exact pz_jump_ok hx hT hd X h4
        · cases h
  · cases h
theorem pz_one_ok (hx : p.tables.exec = Jvm.exec) (hT : pz_thr S = true) (hL : pz_live S = true) {hp hp' : List Cell} {su su' : Nat} {fs fs' : List Frame} {q : Bool} (h : pz_one e S.vm hp su fs = (q, hp', su', fs')) :
    pz_Go p.tables e (pz_C S hp su fs) (pz_C S hp' su' fs') := by
  have hcur := pz_thr_cur hT
  unfold pz_one at h
  split at h
  · rename_i f b r
    split at h
    · rename_i bs hb
      rw [pz_q2_eq] at hb
      have hb1 : pz_code S.vm f.method = some bs := hb
      obtain ⟨c, rfl, X⟩ := pz_mkAt (hp := hp) (su := su) (f := f) (r := b :: r) hT hL hb1
      have hself : (pz_C S hp su (.java f :: b :: r)).setTop f = pz_C S hp su (.java f :: b :: r) := pz_C_top hcur
      have hne : (b :: r) ≠ [] := by simp
      obtain ⟨hm, hfa⟩ := pz_fast_ok (p := p) (e := e) (tg := (pz_C S hp su (.java f :: b :: r)).setTop (pz_fast c.code 400 f)) hx 400 f X
      have h0 : Steps p.tables e (b :: r) (pz_C S hp su (.java f :: b :: r)) (pz_C S hp su (.java (pz_fast c.code 400 f) :: b :: r)) := by
        have := hfa (Steps.refl _)
        rw [hself, pz_C_top hcur] at this
        exact this
      have X0 : At (pz_C S hp su (.java (pz_fast c.code 400 f) :: b :: r)) (pz_fast c.code 400 f).method c (b :: r) := by rw [hm]; exact pz_At hcur X
      rw [pz_fr_eq] at h
      split at h
      · rename_i hp1 su1 fs1 hfar
        cases h
        exact (pz_Go.of hne h0).trans (pz_Go.of hne (pz_far_ok hx hT X0 hfar))
      · cases h
        exact pz_Go.of hne h0
    · cases h
      exact pz_Go.refl _
  · cases h
    exact pz_Go.refl _
theorem pz_C_self {s : State} (h : pz_thr s = true) : pz_C s s.heap.toList s.slotsUsed s.frames = s := by
  unfold pz_thr at h
  split at h
  · rename_i t ht
    show s.setFrames s.frames = s
    exact State.setFrames_self ht
  · cases h
theorem pz_go_ok (hx : p.tables.exec = Jvm.exec) (hs : Nat) : ∀ (n : Nat) (S : State) (hp : List Cell) (su : Nat) (fs : List Frame), pz_thr S = true → pz_live S = true → pz_go p.tables e hs n S hp su fs = true →
    ∃ t, pz_Go p.tables e (pz_C S hp su fs) t ∧ hs < t.heap.size := by
  intro n
  induction n with
  | zero => intro S hp su fs _ _ h; cases h
  | succ n ih =>
    intro S hp su fs hT hL h
    unfold pz_go at h
    split at h
    · rename_i hp' su' fs' h1
      obtain ⟨t, gt, ht⟩ := ih _ _ _ _ hT hL h
      exact ⟨t, (pz_one_ok hx hT hL h1).trans gt, ht⟩
    · rename_i hp' su' fs' h1
      have g1 := pz_one_ok (p := p) hx hT hL h1
      split at h
      · rename_i h2
        refine ⟨_, g1, ?_⟩
        unfold pz_enough at h2
        split at h2
        · exact Nat.le_of_ble_eq_true h2
        · cases h2
      · split at h
        · cases h
        · rename_i h3
          rw [pz_ss_eq] at h
          split at h
          · rename_i l h4 h5 h6
            rw [pz_lq_eq, pz_n_eq] at h
            obtain ⟨t, gt, ht⟩ := ih _ _ _ _ h4 h5 h
            have h7 := pz_C_self h4
            rw [h6] at h7
            rw [h7] at gt
            exact ⟨t, (g1.trans (pz_Go.step h3)).trans gt, ht⟩
          · cases h
end PZ7
/-- a run that passes the claim's room while nothing has ended: the claim is false -/
theorem pz_false2 {n : Nat} (h0 : pz_thr start1.about = true) (h1 : pz_live start1.about = true)
    (h : pz_go start1.p0.tables start1.e0 (start1.about.heap.size + 180) n start1.about start1.about.heap.toList start1.about.slotsUsed start1.about.frames = true) : ¬ Claimed_1_1 := by
  intro hA
  obtain ⟨hL, hW, had, -, hcas, hclk, hfr, hfit, hheap, happ, hcalls, hrest, hpre⟩ := start1.atStart
  obtain ⟨q, o, -, -, hend, -, -, -, hsame⟩ := hA launch0 rfl hL hW start1.p0 start1.e0 had hcas hclk start1.about _ start1.args0 Lib.HandBits.below0 hfr hfit hheap happ ⟨hcalls, hrest, hpre⟩
  obtain ⟨t, gt, ht⟩ := pz_go_ok rfl _ _ _ _ _ _ h0 h1 h
  rw [pz_C_self h0] at gt
  obtain ⟨k, hk, wk⟩ := gt
  have hq : (stepsAlone start1.p0.tables start1.e0 q start1.about).heap.size ≤ start1.about.heap.size + 180 := hsame.2.2.1
  rcases Nat.lt_or_ge q k with hlt | hge
  · have h2 := pz_ended hend
    rw [wk q hlt] at h2
    cases h2
  · obtain ⟨d, rfl⟩ := Nat.exists_eq_add_of_le hge
    have h2 : (stepsAlone start1.p0.tables start1.e0 k start1.about).heap.size ≤ (stepsAlone start1.p0.tables start1.e0 (k + d) start1.about).heap.size := by
      rw [stepsAlone_add]
      exact stepsAlone_heap_le _ _ _ _
    rw [hk] at h2
    omega
/-! ===== END ===== -/
end
section
/-! ===== the same, as values that an instruction has once for all ===== -/
noncomputable def pz_set {α : Type} (l : List α) (i : Nat) (v : α) : List α := List.rec (motive := fun _ => Nat → List α) (fun _ => []) (fun a t ih n => Nat.rec (motive := fun _ => List α) (v :: t) (fun m _ => a :: ih m) n) l i
theorem pz_set_eq {α : Type} (l : List α) (v : α) : ∀ i, pz_set l i v = l.set i v := by
  induction l with
  | nil => intro i; rfl
  | cons a l ih =>
    intro i
    cases i with
    | zero => rfl
    | succ n => exact congrArg (a :: ·) (ih n)
noncomputable def pz_cs (c : Cell) (i : Nat) (v : Value) : Cell := match c with
  | ⟨h1, h2, h3, h4, h5⟩ => ⟨h1, ⟨pz_set h2.toList i v⟩, h3, h4, h5⟩
theorem pz_cs_eq (c : Cell) (i : Nat) (v : Value) : pz_cs c i v = c.setSlot i v := by
  obtain ⟨h1, ⟨l⟩, h3, h4, h5⟩ := c
  show (⟨h1, ⟨pz_set l i v⟩, h3, h4, h5⟩ : Cell) = ⟨h1, (⟨l⟩ : Array Value).setIfInBounds i v, h3, h4, h5⟩
  rw [pz_set_eq, show (⟨l⟩ : Array Value).setIfInBounds i v = ⟨l.set i v⟩ from List.setIfInBounds_toArray ..]
noncomputable def pz_sto (ls : Array Slot) (i : Nat) (v : Value) : Option (Array Slot) := match ls with
  | ⟨l⟩ => match pz_at l i with
    | some .unset => some ⟨pz_set l i (.val v)⟩
    | some (.val (.int _)) => some ⟨pz_set l i (.val v)⟩
    | some (.val (.ref _)) => some ⟨pz_set l i (.val v)⟩
    | _ => none
theorem pz_sto_self {l : List Slot} {i : Nat} {x : Slot} {v : Value} (hv : v.category = 1) (h : l[i]? = some x) : storeSelf ⟨l⟩ i v = some ⟨pz_set l i (.val v)⟩ := by
  have hlt : i < (⟨l⟩ : Array Slot).size := (List.getElem?_eq_some_iff.mp h).1
  have h2 : (⟨l⟩ : Array Slot).setIfInBounds i (.val v) = ⟨l.set i (.val v)⟩ := List.setIfInBounds_toArray ..
  simp only [storeSelf, setAt, if_pos hlt, h2, pz_set_eq, hv]
  rfl
theorem pz_sto_ok {ls ls' : Array Slot} {i : Nat} {v : Value} (hv : v.category = 1) (h : pz_sto ls i v = some ls') : storeLocals ls i v = some ls' := by
  obtain ⟨l⟩ := ls
  unfold pz_sto at h
  dsimp only at h
  rw [pz_at_eq] at h
  have hg : (⟨l⟩ : Array Slot)[i]? = l[i]? := List.getElem?_toArray ..
  split at h
  · rename_i hx
    cases h
    have := pz_sto_self hv hx
    unfold storeLocals
    rw [hg, hx]
    exact this
  · rename_i y hx
    cases h
    have := pz_sto_self hv hx
    unfold storeLocals
    rw [hg, hx]
    exact this
  · rename_i y hx
    cases h
    have := pz_sto_self hv hx
    unfold storeLocals
    rw [hg, hx]
    exact this
  · cases h
noncomputable def pz_lc (f : JFrame) (k : Nat) : Option Slot := match f.locals with
  | ⟨l⟩ => pz_at l k
theorem pz_lc_eq (f : JFrame) (k : Nat) : pz_lc f k = pz_loc f k := by
  unfold pz_lc pz_loc
  cases f.locals
  exact pz_at_eq _ _
noncomputable def pz_t1 (i : Instr) (len : Nat) : Option (JFrame → Option JFrame) := match i with
  | .iload k => some fun f => match pz_lc f k with
    | some (.val (.int x)) => pz_push f len (.int x)
    | _ => none
  | .iload_n k => some fun f => match pz_lc f k with
    | some (.val (.int x)) => pz_push f len (.int x)
    | _ => none
  | .aload k => some fun f => match pz_lc f k with
    | some (.val (.ref x)) => pz_push f len (.ref x)
    | _ => none
  | .aload_n k => some fun f => match pz_lc f k with
    | some (.val (.ref x)) => pz_push f len (.ref x)
    | _ => none
  | .iconst n => some fun f => pz_i (Int32.ofInt n) fun x => pz_push f len (.int x)
  | .bipush n => some fun f => pz_i (Int8.ofInt n).toInt32 fun x => pz_push f len (.int x)
  | .sipush n => some fun f => pz_i (Int16.ofInt n).toInt32 fun x => pz_push f len (.int x)
  | .iadd => some fun f => match f.stack with
    | .int y :: .int x :: r => pz_i (x + y) fun z => pz_push { f with stack := r } len (.int z)
    | _ => none
  | .isub => some fun f => match f.stack with
    | .int y :: .int x :: r => pz_i (x - y) fun z => pz_push { f with stack := r } len (.int z)
    | _ => none
  | .imul => some fun f => match f.stack with
    | .int y :: .int x :: r => pz_i (x * y) fun z => pz_push { f with stack := r } len (.int z)
    | _ => none
  | .istore k => some fun f => match f.stack with
    | .int x :: r => match pz_sto f.locals k (.int x) with
      | some ls => pz_n (f.pc + len) fun pc => some { f with pc := pc, locals := ls, stack := r }
      | none => none
    | _ => none
  | .istore_n k => some fun f => match f.stack with
    | .int x :: r => match pz_sto f.locals k (.int x) with
      | some ls => pz_n (f.pc + len) fun pc => some { f with pc := pc, locals := ls, stack := r }
      | none => none
    | _ => none
  | .iinc k n => some fun f => match pz_lc f k with
    | some (.val (.int x)) => pz_i (x + Int32.ofInt n) fun z => match pz_sto f.locals k (.int z) with
      | some ls => pz_n (f.pc + len) fun pc => some { f with pc := pc, locals := ls }
      | none => none
    | _ => none
  | .goto off => some fun f => match (f.pc : Int) + off with
    | .ofNat t => pz_n t fun pc => some { f with pc := pc }
    | .negSucc _ => none
  | .if_icmp c off => some fun f => match f.stack with
    | .int y :: .int x :: r => match Op.if_icmp.holds c x y with
      | true => match (f.pc : Int) + off with
        | .ofNat t => pz_n t fun pc => some { f with pc := pc, stack := r }
        | .negSucc _ => none
      | false => pz_n (f.pc + len) fun pc => some { f with pc := pc, stack := r }
    | _ => none
  | .ifCond c off => some fun f => match f.stack with
    | .int x :: r => match Op.ifCond.holds c x with
      | true => match (f.pc : Int) + off with
        | .ofNat t => pz_n t fun pc => some { f with pc := pc, stack := r }
        | .negSucc _ => none
      | false => pz_n (f.pc + len) fun pc => some { f with pc := pc, stack := r }
    | _ => none
  | .dup => some fun f => match f.stack with
    | .int x :: r => pz_push { f with stack := .int x :: r } len (.int x)
    | .ref x :: r => pz_push { f with stack := .ref x :: r } len (.ref x)
    | _ => none
  | .pop => some fun f => match f.stack with
    | .int _ :: r => pz_n (f.pc + len) fun pc => some { f with pc := pc, stack := r }
    | .ref _ :: r => pz_n (f.pc + len) fun pc => some { f with pc := pc, stack := r }
    | _ => none
  | .idiv => some fun f => match f.stack with
    | .int y :: .int x :: r => if y = 0 then none else pz_i (x / y) fun z => pz_push { f with stack := r } len (.int z)
    | _ => none
  | .irem => some fun f => match f.stack with
    | .int y :: .int x :: r => if y = 0 then none else pz_i (x - (x / y) * y) fun z => pz_push { f with stack := r } len (.int z)
    | _ => none
  | .astore k => some fun f => match f.stack with
    | .ref x :: r => match pz_sto f.locals k (.ref x) with
      | some ls => pz_n (f.pc + len) fun pc => some { f with pc := pc, locals := ls, stack := r }
      | none => none
    | _ => none
  | .astore_n k => some fun f => match f.stack with
    | .ref x :: r => match pz_sto f.locals k (.ref x) with
      | some ls => pz_n (f.pc + len) fun pc => some { f with pc := pc, locals := ls, stack := r }
      | none => none
    | _ => none
  | .ifnonnull off => some fun f => match f.stack with
    | .ref _ :: r => match (f.pc : Int) + off with
      | .ofNat t => pz_n t fun pc => some { f with pc := pc, stack := r }
      | .negSucc _ => none
    | .null :: r => pz_n (f.pc + len) fun pc => some { f with pc := pc, stack := r }
    | _ => none
  | _ => none
theorem pz_t1_ok {i : Instr} {len : Nat} {g : JFrame → Option JFrame} {f f' : JFrame} (h : pz_t1 i len = some g) (h1 : g f = some f') : pz_f1 i len f = some f' ∨ pz_f2 i len f = some f' := by
  unfold pz_t1 at h
  split at h
  case h_1 =>
    cases h
    simp only [pz_lc_eq] at h1
    exact Or.inl h1
  case h_2 =>
    cases h
    simp only [pz_lc_eq] at h1
    exact Or.inl h1
  case h_3 =>
    cases h
    simp only [pz_lc_eq] at h1
    exact Or.inl h1
  case h_4 =>
    cases h
    simp only [pz_lc_eq] at h1
    exact Or.inl h1
  case h_5 =>
    cases h
    exact Or.inl h1
  case h_6 =>
    cases h
    exact Or.inl h1
  case h_7 =>
    cases h
    exact Or.inl h1
  case h_8 =>
    cases h
    exact Or.inl h1
  case h_9 =>
    cases h
    exact Or.inl h1
  case h_10 =>
    cases h
    exact Or.inl h1
  case h_11 =>
    cases h
    refine Or.inl ?_
    unfold pz_f1
    dsimp only at h1 ⊢
    split at h1
    · rename_i x r hs
      rw [hs]
      dsimp only
      split at h1
      · rename_i ls hl
        rw [pz_sto_ok rfl hl]
        exact h1
      · cases h1
    · cases h1
  case h_12 =>
    cases h
    refine Or.inl ?_
    unfold pz_f1
    dsimp only at h1 ⊢
    split at h1
    · rename_i x r hs
      rw [hs]
      dsimp only
      split at h1
      · rename_i ls hl
        rw [pz_sto_ok rfl hl]
        exact h1
      · cases h1
    · cases h1
  case h_13 =>
    cases h
    simp only [pz_lc_eq] at h1
    refine Or.inl ?_
    unfold pz_f1
    dsimp only
    split at h1
    · rename_i x hk
      rw [hk]
      rw [pz_i_eq] at h1
      dsimp only
      rw [pz_i_eq]
      split at h1
      · rename_i ls hl
        rw [pz_sto_ok rfl hl]
        exact h1
      · cases h1
    · cases h1
  case h_14 =>
    cases h
    exact Or.inl h1
  case h_15 =>
    cases h
    exact Or.inl h1
  case h_16 =>
    cases h
    exact Or.inl h1
  case h_17 =>
    cases h
    exact Or.inr h1
  case h_18 =>
    cases h
    exact Or.inr h1
  case h_19 =>
    cases h
    exact Or.inr h1
  case h_20 =>
    cases h
    exact Or.inr h1
  case h_21 =>
    cases h
    refine Or.inr ?_
    unfold pz_f2
    dsimp only at h1 ⊢
    split at h1
    · rename_i x r hs
      rw [hs]
      dsimp only
      split at h1
      · rename_i ls hl
        rw [pz_sto_ok rfl hl]
        exact h1
      · cases h1
    · cases h1
  case h_22 =>
    cases h
    refine Or.inr ?_
    unfold pz_f2
    dsimp only at h1 ⊢
    split at h1
    · rename_i x r hs
      rw [hs]
      dsimp only
      split at h1
      · rename_i ls hl
        rw [pz_sto_ok rfl hl]
        exact h1
      · cases h1
    · cases h1
  case h_23 =>
    cases h
    exact Or.inr h1
  case h_24 => cases h
noncomputable def pz_op (b : ByteArray) (pc : Nat) : Option (JFrame → Option JFrame) := match pz_dec b pc with
  | some (i, len) => pz_t1 i len
  | none => none
noncomputable def pz_fast2 (b : ByteArray) : Nat → JFrame → JFrame
  | 0, f => f
  | n + 1, f => match pz_n f.pc fun pc => pz_op b pc with
    | some g => match g f with
      | some f' => pz_fast2 b n f'
      | none => f
    | none => f
section PZ8
variable {p : Program} {e : Env} {below : List Frame} {T tg : State} {c : Code}
theorem pz_fast2_ok (hx : p.tables.exec = Jvm.exec) : ∀ (n : Nat) (f : JFrame), At T f.method c below →
    (pz_fast2 c.code n f).method = f.method ∧ (Steps p.tables e below (T.setTop (pz_fast2 c.code n f)) tg → Steps p.tables e below (T.setTop f) tg) := by
  intro n
  induction n with
  | zero => intro f X; exact ⟨rfl, fun a => a⟩
  | succ n ih =>
    intro f X
    unfold pz_fast2
    rw [pz_n_eq]
    split
    · rename_i g hg
      split
      · rename_i f' h1
        unfold pz_op at hg
        split at hg
        · rename_i i len hd0
          have hd := pz_dec_ok hd0
          have h2 : f'.method = f.method ∧ (Steps p.tables e below (T.setTop (pz_fast2 c.code n f')) tg → Steps p.tables e below (T.setTop f) tg) := by
            rcases pz_t1_ok hg h1 with h3 | h3
            · obtain ⟨m1, s1⟩ := pz_f1_ok (p := p) (e := e) (tg := tg) hx hd h3 X
              exact ⟨m1, fun a => s1 ((ih f' (m1 ▸ X)).2 a)⟩
            · obtain ⟨m1, s1⟩ := pz_f2_ok (p := p) (e := e) (tg := tg) hx hd h3 X
              exact ⟨m1, fun a => s1 ((ih f' (m1 ▸ X)).2 a)⟩
          exact ⟨(ih f' (h2.1 ▸ X)).1.trans h2.1, h2.2⟩
        · cases hg
      · exact ⟨rfl, fun a => a⟩
    · exact ⟨rfl, fun a => a⟩
end PZ8
/-! ===== END ===== -/
end
section
/-! ===== heap and calls as values ===== -/
noncomputable def pz_hop (vm : Vm) (pl : Platform) (d : Nat) (i : Instr) (len : Nat) : Option (List Cell → Nat → JFrame → Option pz_R) := match i with
  | .getfield idx => match pz_inst vm d idx with
    | some (slot, _, _) => some fun hp su f => match f.stack with
      | .ref a :: r => match pz_at hp a with
        | some cl0 => match cl0.vm with
          | .none => match pz_at cl0.slots.toList slot with
            | some (.int x) => pz_next hp su f len (.int x :: r)
            | some (.ref x) => pz_next hp su f len (.ref x :: r)
            | some .null => pz_next hp su f len (.null :: r)
            | _ => none
          | _ => none
        | none => none
      | _ => none
    | none => none
  | .putfield idx => match pz_inst vm d idx with
    | some (slot, ty, false) => some fun hp su f => match f.stack with
      | x :: .ref a :: r => match pz_at hp a with
        | some cl0 => match cl0.vm with
          | .none => match pz_at cl0.slots.toList slot with
            | some _ => match pz_fits vm cl0.cls slot (narrow ty x) with
              | true => pz_next (pz_set hp a (pz_cs cl0 slot (narrow ty x))) su f len r
              | false => none
            | none => none
          | _ => none
        | none => none
      | _ => none
    | _ => none
  | .getstatic idx => match pz_stat vm d idx with
    | some (a, slot) => some fun hp su f => match pz_at hp a with
      | some cl0 => match cl0.vm with
        | .statics _ => match pz_at cl0.slots.toList slot with
          | some (.ref x) => pz_next hp su f len (.ref x :: f.stack)
          | _ => none
        | _ => none
      | none => none
    | none => none
  | .iaload => some fun hp su f => match f.stack with
    | .int j :: .ref a :: r => match pz_at hp a with
      | some cl0 => match cl0.vm with
        | .none => match pz_ints vm cl0.cls with
          | true => if j < 0 then none else match pz_at cl0.slots.toList (j.toNatClampNeg) with
            | some (.int x) => pz_next hp su f len (.int x :: r)
            | _ => none
          | false => none
        | _ => none
      | none => none
    | _ => none
  | .iastore => some fun hp su f => match f.stack with
    | .int x :: .int j :: .ref a :: r => match pz_at hp a with
      | some cl0 => match cl0.vm with
        | .none => match pz_ints vm cl0.cls with
          | true => if j < 0 then none else match pz_at cl0.slots.toList (j.toNatClampNeg) with
            | some _ => pz_n j.toNatClampNeg fun j => pz_next (pz_set hp a (pz_cs cl0 j (.int x))) su f len r
            | _ => none
          | false => none
        | _ => none
      | none => none
    | _ => none
  | .arraylength => some fun hp su f => match f.stack with
    | .ref a :: r => match pz_at hp a with
      | some cl0 => match cl0.vm with
        | .none => match pz_ints vm cl0.cls with
          | true => pz_i cl0.slots.size.toInt32 fun x => pz_next hp su f len (.int x :: r)
          | false => none
        | _ => none
      | none => none
    | _ => none
  | .newarray .int => match pz_intArr vm with
    | some c => some fun hp su f => match f.stack with
      | .int n :: r => if n < 0 then none else pz_n n.toNatClampNeg fun m => pz_n hp.length fun q => match Nat.ble m pl.arrayLengthLimit, Nat.ble (m * 4) pl.maxHeapBytes, Nat.blt q pl.maxCells, Nat.ble (su + m) pl.maxSlots with
        | true, true, true, true => pz_n (su + m) fun su' => pz_next (hp ++ [{ cls := c, slots := ⟨List.replicate m (.int 0)⟩, vm := .none }]) su' f len (.ref q :: r)
        | _, _, _, _ => none
      | _ => none
    | none => none
  | .new idx => match pz_new vm d idx with
    | some (c, ts) => some fun hp su f => pz_n hp.length fun q => match Nat.blt q pl.maxCells, Nat.ble (su + ts.size) pl.maxSlots with
      | true, true => pz_n (su + ts.size) fun su' => pz_next (hp ++ [{ cls := c, slots := ts.map defaultValue, vm := .none }]) su' f len (.ref q :: f.stack)
      | _, _ => none
    | none => none
  | _ => none
theorem pz_toList {α : Type} (xs : Array α) (i : Nat) : pz_at xs.toList i = xs[i]? := (pz_at_eq _ _).trans (Array.getElem?_toList ..)
section PZ9
variable {p : Program} {e : Env} {r : List Frame} {S : State} {c : Code} {hp : List Cell} {su : Nat}
theorem pz_hop_ok (hx : p.tables.exec = Jvm.exec) (hcur : S.cur < S.threads.size) {f : JFrame} {i : Instr} {len : Nat} {q : pz_R} {g : List Cell → Nat → JFrame → Option pz_R} (hd : decode c.code f.pc = .ok (i, len)) (X : At (pz_C S hp su (.java f :: r)) f.method c r)
    (h0 : pz_hop S.vm e.platform f.method.cls i len = some g) (h1 : g hp su f = some q) : pz_To p e S r c hp su f q := by
  unfold pz_hop at h0
  split at h0
  case h_1 idx =>
    split at h0
    · rename_i slot ty fin hi
      cases h0
      dsimp only at h1
      split at h1
      · rename_i a st hs
        rw [pz_at_eq] at h1
        split at h1
        · rename_i cl0 hc
          split at h1
          · rename_i hv
            rw [pz_toList] at h1
            split at h1
            · rename_i x hg
              rw [pz_next_some h1]
              exact pz_getfield_ok hx hcur hd X hs hi hc hv hg
            · rename_i x hg
              rw [pz_next_some h1]
              exact pz_getfield_ok hx hcur hd X hs hi hc hv hg
            · rename_i hg
              rw [pz_next_some h1]
              exact pz_getfield_ok hx hcur hd X hs hi hc hv hg
            · cases h1
          · cases h1
        · cases h1
      · cases h1
    · cases h0
  case h_2 idx =>
    split at h0
    · rename_i slot ty hi
      cases h0
      dsimp only at h1
      split at h1
      · rename_i x a st hs
        rw [pz_at_eq] at h1
        split at h1
        · rename_i cl0 hc
          split at h1
          · rename_i hv
            rw [pz_toList] at h1
            split at h1
            · rename_i v hg
              split at h1
              · rename_i hfit
                rw [pz_next_some h1, pz_set_eq, pz_cs_eq]
                exact pz_putfield_ok hx hcur hd X hs hi hc hv hg hfit
              · cases h1
            · cases h1
          · cases h1
        · cases h1
      · cases h1
    · cases h0
  case h_3 idx =>
    split at h0
    · rename_i a slot hi
      cases h0
      dsimp only at h1
      rw [pz_at_eq] at h1
      split at h1
      · rename_i cl0 hc
        split at h1
        · rename_i q0 hv
          rw [pz_toList] at h1
          split at h1
          · rename_i x hg
            rw [pz_next_some h1]
            exact pz_getstatic_ok hx hcur hd X hi hc hv hg
          · cases h1
        · cases h1
      · cases h1
    · cases h0
  case h_4 =>
    cases h0
    dsimp only at h1
    split at h1
    · rename_i j a st hs
      rw [pz_at_eq] at h1
      split at h1
      · rename_i cl0 hc
        split at h1
        · rename_i hv
          split at h1
          · rename_i hi
            split at h1
            · cases h1
            · rename_i hj
              rw [pz_toList] at h1
              split at h1
              · rename_i x hg
                rw [pz_next_some h1]
                exact pz_iaload_ok hx hcur hd X hs hc hv hi hj hg
              · cases h1
          · cases h1
        · cases h1
      · cases h1
    · cases h1
  case h_5 =>
    cases h0
    dsimp only at h1
    split at h1
    · rename_i x j a st hs
      rw [pz_at_eq] at h1
      split at h1
      · rename_i cl0 hc
        split at h1
        · rename_i hv
          split at h1
          · rename_i hi
            split at h1
            · cases h1
            · rename_i hj
              rw [pz_toList] at h1
              split at h1
              · rename_i v hg
                rw [pz_n_eq] at h1
                rw [pz_next_some h1, pz_set_eq, pz_cs_eq]
                exact pz_iastore_ok hx hcur hd X hs hc hv hi hj hg
              · cases h1
          · cases h1
        · cases h1
      · cases h1
    · cases h1
  case h_6 =>
    cases h0
    dsimp only at h1
    split at h1
    · rename_i a st hs
      rw [pz_at_eq] at h1
      split at h1
      · rename_i cl0 hc
        split at h1
        · rename_i hv
          split at h1
          · rename_i hi
            rw [pz_i_eq] at h1
            rw [pz_next_some h1]
            exact pz_length_ok hx hcur hd X hs hc hv hi
          · cases h1
        · cases h1
      · cases h1
    · cases h1
  case h_7 =>
    split at h0
    · rename_i cA hi
      cases h0
      dsimp only at h1
      split at h1
      · rename_i n st hs
        split at h1
        · cases h1
        · rename_i hn
          rw [pz_n_eq, pz_n_eq] at h1
          split at h1
          · rename_i g1 g2 g3 g4
            rw [pz_n_eq] at h1
            rw [pz_next_some h1]
            exact pz_newarr_ok hx hcur hd X hs hi hn (Nat.le_of_ble_eq_true g1) (Nat.le_of_ble_eq_true g2) (Nat.le_of_ble_eq_true g3) (Nat.le_of_ble_eq_true g4)
          · cases h1
      · cases h1
    · cases h0
  case h_8 idx =>
    split at h0
    · rename_i cN ts hi
      cases h0
      dsimp only at h1
      rw [pz_n_eq] at h1
      split at h1
      · rename_i g3 g4
        rw [pz_n_eq] at h1
        rw [pz_next_some h1]
        exact pz_newobj_ok hx hcur hd X hi (Nat.le_of_ble_eq_true g3) (Nat.le_of_ble_eq_true g4)
      · cases h1
    · cases h0
  case h_9 => cases h0
end PZ9
/-! ===== the words of the frames below, the locals of a new frame ===== -/
noncomputable def pz_use (r : List Frame) : Nat := List.rec (motive := fun _ => Nat) 0 (fun x _ ih => ih + (match x with
  | .java f => f.locals.size + 11 + 2 * f.monitorRoom + operandWords f.stack
  | x => x.words)) r
theorem pz_use_eq (r : List Frame) : pz_use r = (stackUse r).2 := by
  induction r with
  | nil => rfl
  | cons x r ih =>
    have h : pz_use (x :: r) = pz_use r + (match x with
      | .java f => f.locals.size + 11 + 2 * f.monitorRoom + operandWords f.stack
      | x => x.words) := rfl
    rw [h, ih]
    cases x <;> first | (rw [stackUse_java]) | (rw [stackUse_other _ _ (by intro f h; cases h)])
noncomputable def pz_lo (l : List Value) : Nat → List Slot := List.rec (motive := fun _ => Nat → List Slot) (fun n => List.replicate n .unset) (fun v _ ih n => .val v :: ih (n - 1)) l
theorem pz_lo_eq (l : List Value) : ∀ n, pz_lo l n = l.map Slot.val ++ List.replicate (n - l.length) .unset := by
  induction l with
  | nil => intro n; rfl
  | cons v l ih =>
    intro n
    have h : pz_lo (v :: l) n = .val v :: pz_lo l (n - 1) := rfl
    rw [h, ih, List.map_cons, List.cons_append, List.length_cons, Nat.sub_sub, Nat.add_comm 1]
def pz_k1 (v : Value) (b : Bool) : Bool := match v with
  | .int _ => b
  | .ref _ => b
  | _ => false
noncomputable def pz_c1 (l : List Value) : Bool := List.rec (motive := fun _ => Bool) true (fun v _ ih => pz_k1 v ih) l
theorem pz_c1_ok (l : List Value) (h : pz_c1 l = true) : ∀ v ∈ l, v.category = 1 := by
  induction l with
  | nil => intro v hv; cases hv
  | cons a l ih =>
    have h2 : pz_k1 a (pz_c1 l) = true := h
    intro v hv
    cases a <;> first | cases h2 | (rcases List.mem_cons.mp hv with rfl | hv <;> first | rfl | exact ih h2 v hv)
theorem pz_locs_eq (l : List Value) (n : Nat) (h : pz_c1 l = true) : argsToLocals l.toArray n = ⟨pz_lo l n⟩ := by
  have e := entry_fold l (pz_c1_ok l h) #[]
  rw [pz_lo_eq]
  simp only [argsToLocals, List.foldl_toArray, e]
  simp
noncomputable def pz_enter2 (pl : Platform) (f : JFrame) (r : List Frame) (m : MethodId) (L : Nat) (args st : List Value) : Option (List Frame) := match pz_c1 args, Nat.blt (r.length + 1) pl.maxFrames with
  | true, true => match Nat.ble (pz_use r + (f.locals.size + 11 + 2 * f.monitorRoom + operandWords st) + L + 11) pl.maxStackSlots with
    | true => some (.java { method := m, pc := 0, locals := ⟨pz_lo args L⟩, stack := [], locked := none } :: .java { f with stack := st } :: r)
    | false => none
  | _, _ => none
theorem pz_enter2_ok {pl : Platform} {f : JFrame} {r fs : List Frame} {m : MethodId} {L : Nat} {args st : List Value} (h : pz_enter2 pl f r m L args st = some fs) : pz_enter pl f r m L args st = some fs := by
  unfold pz_enter2 at h
  split at h
  · rename_i h1 h2
    split at h
    · rename_i h3
      cases h
      have h4 : pz_room pl (.java { f with stack := st } :: r) L = true := by
        unfold pz_room
        rw [List.length_cons, h2, stackUse_java, ← pz_use_eq]
        exact h3
      unfold pz_enter
      rw [h4, pz_locs_eq _ _ h1]
    · cases h
  · cases h
/-! ===== END ===== -/
end
section
/-! ===== the run, by values ===== -/
noncomputable def pz_vm {β : Type} (vm : Vm) (k : Vm → β) : β := match vm with
  | ⟨a1, a2, a3, a4, a5, a6, a7, a8, a9, a10, a11, a12, a13, a14, a15, a16, a17, a18, a19⟩ => k ⟨a1, a2, a3, a4, a5, a6, a7, a8, a9, a10, a11, a12, a13, a14, a15, a16, a17, a18, a19⟩
theorem pz_vm_eq {β : Type} (vm : Vm) (k : Vm → β) : pz_vm vm k = k vm := by cases vm; rfl
abbrev pz_J : Type := List Cell → JFrame → List Frame → Option (List Frame)
noncomputable def pz_jop (e : Env) (vm : Vm) (d : Nat) (i : Instr) : Option pz_J := match i with
  | .invokestatic idx => match pz_st e vm d idx with
    | some (m, n, L) => some fun _ f r => match pz_args n f.stack with
      | some (args, st) => pz_enter2 e.platform f r m L args st
      | none => none
    | none => none
  | .invokevirtual idx => match pz_vt vm d idx with
    | some (r0, n) => some fun hp f r => match pz_args n f.stack with
      | some (args, .ref a :: st) => match pz_at hp a with
        | some cl0 => match cl0.vm with
          | .none => match pz_n cl0.cls fun cc => pz_sel e.platform vm cc r0 with
            | some (m, L) => pz_enter2 e.platform f r m L (.ref a :: args) st
            | none => none
          | _ => none
        | none => none
      | _ => none
    | none => none
  | .invokespecial idx => match pz_sp vm d idx with
    | some (m, n, L) => some fun hp f r => match pz_args n f.stack with
      | some (args, .ref a :: st) => match pz_at hp a with
        | some cl0 => match cl0.vm with
          | .none => match vm.classes[cl0.cls]? with
            | some _ => pz_enter2 e.platform f r m L (.ref a :: args) st
            | none => none
          | _ => none
        | none => none
      | _ => none
    | none => none
  | .return_ => some fun _ f r => pz_ret vm .return_ f r
  | .ireturn => some fun _ f r => pz_ret vm .ireturn f r
  | _ => none
abbrev pz_E : Type := Sum (List Cell → Nat → JFrame → Option pz_R) pz_J
noncomputable def pz_ent (e : Env) (vm : Vm) (b : ByteArray) (d pc : Nat) : Option pz_E := match pz_dec b pc with
  | some (i, len) => match pz_hop vm e.platform d i len with
    | some g => some (.inl g)
    | none => match pz_jop e vm d i with
      | some g => some (.inr g)
      | none => none
  | none => none
noncomputable def pz_far2 (e : Env) (vm : Vm) (b : ByteArray) (hp : List Cell) (su : Nat) (f : JFrame) (r : List Frame) : Option (List Cell × Nat × List Frame) := match pz_q2 f.method.cls f.pc fun d pc => pz_ent e vm b d pc with
  | some (.inl g) => match g hp su f with
    | some (hp', su', f') => some (hp', su', .java f' :: r)
    | none => none
  | some (.inr g) => match g hp f r with
    | some fs => some (hp, su, fs)
    | none => none
  | none => none
noncomputable def pz_one2 (e : Env) (vm : Vm) (hp : List Cell) (su : Nat) (fs : List Frame) : pz_A := match fs with
  | .java f :: b :: r => match pz_q2 f.method.cls f.method.idx fun i j => pz_code vm ⟨i, j⟩ with
    | some bs => pz_fr (pz_fast2 bs 400 f) fun f0 => match pz_far2 e vm bs hp su f0 (b :: r) with
      | some (hp', su', fs') => (true, hp', su', fs')
      | none => (false, hp, su, .java f0 :: b :: r)
    | none => (false, hp, su, fs)
  | _ => (false, hp, su, fs)
noncomputable def pz_go2 (tb : Tables) (e : Env) (hs : Nat) : Nat → State → Vm → List Cell → Nat → List Frame → Bool
  | 0, _, _, _, _, _ => false
  | n + 1, S, vv, hp, su, fs => match pz_one2 e vv hp su fs with
    | (true, hp', su', fs') => pz_go2 tb e hs n S vv hp' su' fs'
    | (false, hp', su', fs') => match pz_enough hs hp' fs' with
      | true => true
      | false => match pz_chk (pz_C S hp' su' fs') with
        | false => false
        | true => pz_ss (stepThread tb e (pz_C S hp' su' fs')).1 fun S' => match pz_thr S', pz_live S', S'.heap with
          | true, true, ⟨l⟩ => pz_lq l fun l => pz_n S'.slotsUsed fun u => pz_vm S'.vm fun vm' => pz_go2 tb e hs n S' vm' l u S'.frames
          | _, _, _ => false
section PZA
variable {p : Program} {e : Env} {S : State}
theorem pz_jop_ok (hx : p.tables.exec = Jvm.exec) (hT : pz_thr S = true) {c : Code} {hp : List Cell} {su : Nat} {f : JFrame} {r fs : List Frame} {i : Instr} {len : Nat} {g : pz_J} (hd : decode c.code f.pc = .ok (i, len)) (X : At (pz_C S hp su (.java f :: r)) f.method c r)
    (h0 : pz_jop e S.vm f.method.cls i = some g) (h : g hp f r = some fs) : Steps p.tables e r (pz_C S hp su (.java f :: r)) (pz_C S hp su fs) := by
  unfold pz_jop at h0
  split at h0
  · split at h0
    · rename_i m n L hi
      cases h0
      dsimp only at h
      split at h
      · rename_i args st ha
        exact pz_static_ok hx hT hd X hi ha (pz_enter2_ok h) _ (Steps.refl _)
      · cases h
    · cases h0
  · split at h0
    · rename_i r0 n hi
      cases h0
      dsimp only at h
      split at h
      · rename_i args a st ha
        rw [pz_at_eq] at h
        split at h
        · rename_i cl0 hc
          split at h
          · rename_i hv
            split at h
            · rename_i m L hsel
              rw [pz_n_eq] at hsel
              exact pz_virtual_ok hx hT hd X hi ha hc hv hsel (pz_enter2_ok h) _ (Steps.refl _)
            · cases h
          · cases h
        · cases h
      · cases h
    · cases h0
  · split at h0
    · rename_i m n L hi
      cases h0
      dsimp only at h
      split at h
      · rename_i args a st ha
        rw [pz_at_eq] at h
        split at h
        · rename_i cl0 hc
          split at h
          · rename_i hv
            split at h
            · rename_i kc hkc
              exact pz_special_ok hx hT hd X hi ha hc hv hkc (pz_enter2_ok h) _ (Steps.refl _)
            · cases h
          · cases h
        · cases h
      · cases h
    · cases h0
  · cases h0
    exact pz_ret_ok hx (pz_thr_cur hT) hd X h _ rfl
  · cases h0
    exact pz_ret_ok hx (pz_thr_cur hT) hd X h _ rfl
  · cases h0
theorem pz_far2_ok (hx : p.tables.exec = Jvm.exec) (hT : pz_thr S = true) {c : Code} {hp hp' : List Cell} {su su' : Nat} {f : JFrame} {r fs : List Frame} (X : At (pz_C S hp su (.java f :: r)) f.method c r)
    (h : pz_far2 e S.vm c.code hp su f r = some (hp', su', fs)) : Steps p.tables e r (pz_C S hp su (.java f :: r)) (pz_C S hp' su' fs) := by
  have hcur := pz_thr_cur hT
  unfold pz_far2 at h
  rw [pz_q2_eq] at h
  split at h
  · rename_i g hg
    unfold pz_ent at hg
    split at hg
    · rename_i i len hd0
      have hd := pz_dec_ok hd0
      split at hg
      · rename_i g' h2
        cases hg
        split at h
        · rename_i hp1 su1 f1 h3
          cases h
          exact (pz_hop_ok hx hcur hd X h2 h3).2.2 _ (Steps.refl _)
        · cases h
      · split at hg <;> cases hg
    · cases hg
  · rename_i g hg
    unfold pz_ent at hg
    split at hg
    · rename_i i len hd0
      have hd := pz_dec_ok hd0
      split at hg
      · cases hg
      · split at hg
        · rename_i g' h2
          cases hg
          split at h
          · rename_i fs' h3
            cases h
            exact pz_jop_ok hx hT hd X h2 h3
          · cases h
        · cases hg
    · cases hg
  · cases h
theorem pz_one2_ok (hx : p.tables.exec = Jvm.exec) (hT : pz_thr S = true) (hL : pz_live S = true) {hp hp' : List Cell} {su su' : Nat} {fs fs' : List Frame} {q : Bool} (h : pz_one2 e S.vm hp su fs = (q, hp', su', fs')) :
    pz_Go p.tables e (pz_C S hp su fs) (pz_C S hp' su' fs') := by
  have hcur := pz_thr_cur hT
  unfold pz_one2 at h
  split at h
  · rename_i f b r
    split at h
    · rename_i bs hb
      rw [pz_q2_eq] at hb
      have hb1 : pz_code S.vm f.method = some bs := hb
      obtain ⟨c, rfl, X⟩ := pz_mkAt (hp := hp) (su := su) (f := f) (r := b :: r) hT hL hb1
      have hself : (pz_C S hp su (.java f :: b :: r)).setTop f = pz_C S hp su (.java f :: b :: r) := pz_C_top hcur
      have hne : (b :: r) ≠ [] := by simp
      obtain ⟨hm, hfa⟩ := pz_fast2_ok (p := p) (e := e) (tg := (pz_C S hp su (.java f :: b :: r)).setTop (pz_fast2 c.code 400 f)) hx 400 f X
      have h0 : Steps p.tables e (b :: r) (pz_C S hp su (.java f :: b :: r)) (pz_C S hp su (.java (pz_fast2 c.code 400 f) :: b :: r)) := by
        have := hfa (Steps.refl _)
        rw [hself, pz_C_top hcur] at this
        exact this
      have X0 : At (pz_C S hp su (.java (pz_fast2 c.code 400 f) :: b :: r)) (pz_fast2 c.code 400 f).method c (b :: r) := by rw [hm]; exact pz_At hcur X
      rw [pz_fr_eq] at h
      split at h
      · rename_i hp1 su1 fs1 hfar
        cases h
        exact (pz_Go.of hne h0).trans (pz_Go.of hne (pz_far2_ok hx hT X0 hfar))
      · cases h
        exact pz_Go.of hne h0
    · cases h
      exact pz_Go.refl _
  · cases h
    exact pz_Go.refl _
theorem pz_go2_ok (hx : p.tables.exec = Jvm.exec) (hs : Nat) : ∀ (n : Nat) (S : State) (hp : List Cell) (su : Nat) (fs : List Frame), pz_thr S = true → pz_live S = true → pz_go2 p.tables e hs n S S.vm hp su fs = true →
    ∃ t, pz_Go p.tables e (pz_C S hp su fs) t ∧ hs < t.heap.size := by
  intro n
  induction n with
  | zero => intro S hp su fs _ _ h; cases h
  | succ n ih =>
    intro S hp su fs hT hL h
    unfold pz_go2 at h
    split at h
    · rename_i hp' su' fs' h1
      obtain ⟨t, gt, ht⟩ := ih _ _ _ _ hT hL h
      exact ⟨t, (pz_one2_ok hx hT hL h1).trans gt, ht⟩
    · rename_i hp' su' fs' h1
      have g1 := pz_one2_ok (p := p) hx hT hL h1
      split at h
      · rename_i h2
        refine ⟨_, g1, ?_⟩
        unfold pz_enough at h2
        split at h2
        · exact Nat.le_of_ble_eq_true h2
        · cases h2
      · split at h
        · cases h
        · rename_i h3
          rw [pz_ss_eq] at h
          split at h
          · rename_i l h4 h5 h6
            rw [pz_lq_eq, pz_n_eq, pz_vm_eq] at h
            obtain ⟨t, gt, ht⟩ := ih _ _ _ _ h4 h5 h
            have h7 := pz_C_self h4
            rw [h6] at h7
            rw [h7] at gt
            exact ⟨t, (g1.trans (pz_Go.step h3)).trans gt, ht⟩
          · cases h
end PZA
/-- a run that passes the claim's room while nothing has ended: the claim is false -/
theorem pz_false3 {n : Nat} (h0 : pz_thr start1.about = true) (h1 : pz_live start1.about = true)
    (h : pz_go2 start1.p0.tables start1.e0 (start1.about.heap.size + 180) n start1.about start1.about.vm start1.about.heap.toList start1.about.slotsUsed start1.about.frames = true) : ¬ Claimed_1_1 := by
  intro hA
  obtain ⟨hL, hW, had, -, hcas, hclk, hfr, hfit, hheap, happ, hcalls, hrest, hpre⟩ := start1.atStart
  obtain ⟨q, o, -, -, hend, -, -, -, hsame⟩ := hA launch0 rfl hL hW start1.p0 start1.e0 had hcas hclk start1.about _ start1.args0 Lib.HandBits.below0 hfr hfit hheap happ ⟨hcalls, hrest, hpre⟩
  obtain ⟨t, gt, ht⟩ := pz_go2_ok rfl _ _ _ _ _ _ h0 h1 h
  rw [pz_C_self h0] at gt
  obtain ⟨k, hk, wk⟩ := gt
  have hq : (stepsAlone start1.p0.tables start1.e0 q start1.about).heap.size ≤ start1.about.heap.size + 180 := hsame.2.2.1
  rcases Nat.lt_or_ge q k with hlt | hge
  · have h2 := pz_ended hend
    rw [wk q hlt] at h2
    cases h2
  · obtain ⟨d, rfl⟩ := Nat.exists_eq_add_of_le hge
    have h2 : (stepsAlone start1.p0.tables start1.e0 k start1.about).heap.size ≤ (stepsAlone start1.p0.tables start1.e0 (k + d) start1.about).heap.size := by
      rw [stepsAlone_add]
      exact stepsAlone_heap_le _ _ _ _
    rw [hk] at h2
    omega
/-! ===== END ===== -/
end
section
/-! ===== an exception on its way ===== -/
noncomputable def pz_find (vm : Vm) (cc d pc : Nat) (es : List ExceptionTableEntry) : Option (Option Nat) := List.rec (motive := fun _ => Option (Option Nat)) (some none) (fun x _ ih => match covers x pc with
  | false => ih
  | true => match Nat.beq x.catchType 0 with
    | true => some (some x.handlerPc)
    | false => match pz_clr vm d x.catchType with
      | some c => match vm.classes[c]?, vm.classes[cc]? with
        | some _, some _ => match vm.assignable cc c with
          | true => some (some x.handlerPc)
          | false => ih
        | _, _ => none
      | none => none) es
def pz_ans : Option Nat → Handler
  | none => .none
  | some pc => .found pc
theorem pz_find_ok {e : Env} {s : State} {f : JFrame} {a : Addr} {cl0 : Cell} (hc : s.heap[a]? = some cl0) (hv : cl0.vm = .none) (es : List ExceptionTableEntry) {o : Option Nat} (h : pz_find s.vm cl0.cls f.method.cls f.pc es = some o) :
    ∀ (Q : Handler → Pre) (E : CtlPost) (d : Bool) (acts : List Action), wp (findHandler.go f a es) Q E e d acts s ↔ Q (pz_ans o) d acts s := by
  induction es with
  | nil =>
    intro Q E d acts
    have h1 : some none = some o := h
    cases h1
    exact W.findHandler_go_nil
  | cons x t ih =>
    intro Q E d acts
    have h1 : (match covers x f.pc with
      | false => pz_find s.vm cl0.cls f.method.cls f.pc t
      | true => match Nat.beq x.catchType 0 with
        | true => some (some x.handlerPc)
        | false => match pz_clr s.vm f.method.cls x.catchType with
          | some c => match s.vm.classes[c]?, s.vm.classes[cl0.cls]? with
            | some _, some _ => match s.vm.assignable cl0.cls c with
              | true => some (some x.handlerPc)
              | false => pz_find s.vm cl0.cls f.method.cls f.pc t
            | _, _ => none
          | none => none) = some o := h
    split at h1
    · rename_i hcov
      rw [W.findHandler_go_skip hcov]
      exact ih h1 Q E d acts
    · rename_i hcov
      split at h1
      · rename_i h0
        cases h1
        exact W.findHandler_go_any hcov (Nat.eq_of_beq_eq_true h0)
      · rename_i h0
        have h0' : x.catchType ≠ 0 := fun q => by rw [q] at h0; cases h0
        split at h1
        · rename_i c hr
          split at h1
          · rename_i k1 k2 g1 g2
            rw [W.findHandler_go_class hcov h0' (pz_clr_ok hr) hc (fun k q => by rw [hv] at q; cases q) ⟨_, g2⟩ ⟨_, g1⟩]
            split at h1
            · rename_i hfit
              cases h1
              rw [if_pos hfit]
              rfl
            · rename_i hfit
              rw [if_neg (by rw [hfit]; decide)]
              exact ih h1 Q E d acts
          · cases h1
        · cases h1
/-- the handler in a method that takes no monitor -/
noncomputable def pz_look (vm : Vm) (i j cc pc : Nat) : Option (Option Nat) := match vm.method? ⟨i, j⟩ with
  | some meth => match meth.code, meth.locks with
    | some c, false => pz_find vm cc i pc c.exceptionTable.toList
    | _, _ => none
  | none => none
noncomputable def pz_thrw (vm : Vm) (hp : List Cell) (fs : List Frame) : Option (List Frame) := match fs with
  | .throwing a :: .java g :: b :: r => match pz_at hp a with
    | some cl0 => match cl0.vm with
      | .none => match pz_q2 g.method.cls g.method.idx fun i j => pz_q2 cl0.cls g.pc fun cc pc => pz_look vm i j cc pc with
        | some none => match g.locked, g.entered with
          | none, [] => some (.throwing a :: b :: r)
          | _, _ => none
        | some (some pc) => pz_n pc fun pc => some (.java { g with pc := pc, stack := [.ref a] } :: b :: r)
        | none => none
      | _ => none
    | none => none
  | _ => none
section PZB
variable {p : Program} {e : Env} {S : State}
theorem pz_C_chk (hT : pz_thr S = true) (hL : pz_live S = true) {hp : List Cell} {su : Nat} {fs : List Frame} (hu : pz_up fs = true) : pz_chk (pz_C S hp su fs) = true := by
  have hcur := pz_thr_cur hT
  obtain ⟨h1, h2, h3⟩ := pz_live_ok hL
  have a0 : (pz_C S hp su fs).status = .running := h1
  have a1 : (pz_C S hp su fs).curStatus? = some .runnable := by
    have : (pz_C S hp su fs).curStatus? = ({ S with heap := ⟨hp⟩, slotsUsed := su } : State).curStatus? := by unfold pz_C; simp
    rw [this]; exact h2
  have a2 : (pz_C S hp su fs).alone = true := by
    have : (pz_C S hp su fs).alone = ({ S with heap := ⟨hp⟩, slotsUsed := su } : State).alone := State.alone_setFrames _ _
    rw [this]; exact h3
  unfold pz_chk
  rw [pz_C_frames hcur, hu, a0, a1, a2]
theorem pz_thrw_ok (hT : pz_thr S = true) (hL : pz_live S = true) {hp : List Cell} {su : Nat} {fs fs' : List Frame} (h : pz_thrw S.vm hp fs = some fs') : pz_Go p.tables e (pz_C S hp su fs) (pz_C S hp su fs') := by
  have hcur := pz_thr_cur hT
  unfold pz_thrw at h
  split at h
  · rename_i a g b r
    rw [pz_at_eq] at h
    split at h
    · rename_i cl0 hc
      split at h
      · rename_i hv
        rw [pz_q2_eq, pz_q2_eq] at h
        have hgo := pz_Go.step (tb := p.tables) (e := e) (pz_C_chk (hp := hp) (su := su) (fs := .throwing a :: .java g :: b :: r) hT hL rfl)
        have hst : stepThread p.tables e (pz_C S hp su (.throwing a :: .java g :: b :: r)) = stepThrowing e (pz_C S hp su (.throwing a :: .java g :: b :: r)) a (.java g :: b :: r) := stepThread_throwing (pz_C_frames hcur)
        rw [hst] at hgo
        have hc1 : (pz_C S hp su (.throwing a :: .java g :: b :: r)).heap[a]? = some cl0 := (pz_C_get ..).trans hc
        have key : ∀ o, pz_look S.vm g.method.cls g.method.idx cl0.cls g.pc = some o → ∃ meth, S.vm.method? g.method = some meth ∧ meth.locks = false ∧ Finds e (pz_C S hp su (.throwing a :: .java g :: b :: r)) g a (pz_ans o) := by
          intro o ho
          unfold pz_look at ho
          split at ho
          · rename_i meth hm
            split at ho
            · rename_i c hcd hl
              refine ⟨meth, hm, hl, fun Q E d acts => ?_⟩
              have hm1 : (pz_C S hp su (.throwing a :: .java g :: b :: r)).vm.method? g.method = some meth := hm
              rw [W.findHandler_eq hm1 hcd]
              exact pz_find_ok (s := pz_C S hp su (.throwing a :: .java g :: b :: r)) hc1 hv _ ho Q E d acts
            · cases ho
          · cases ho
        split at h
        · rename_i hlk
          obtain ⟨meth, hm, hl, hf⟩ := key _ hlk
          split at h
          · rename_i h1 h2
            cases h
            have hm1 : (pz_C S hp su (.throwing a :: .java g :: b :: r)).vm.method? g.method = some meth := hm
            rw [(stepThrowing_leave (s := pz_C S hp su (.throwing a :: .java g :: b :: r)) (r := b :: r) hm1 hl h1 h2 hf).1] at hgo
            have : (pz_C S hp su (.throwing a :: .java g :: b :: r)).setFrames (.throwing a :: b :: r) = pz_C S hp su (.throwing a :: b :: r) := State.setFrames_setFrames _ _ _
            rw [this] at hgo
            exact hgo
          · cases h
        · rename_i pc hlk
          obtain ⟨meth, hm, hl, hf⟩ := key _ hlk
          rw [pz_n_eq] at h
          cases h
          rw [(stepThrowing_catch (s := pz_C S hp su (.throwing a :: .java g :: b :: r)) (r := b :: r) hf).1] at hgo
          have : (pz_C S hp su (.throwing a :: .java g :: b :: r)).setFrames (.java { g with pc := pc, stack := [.ref a] } :: b :: r) = pz_C S hp su (.java { g with pc := pc, stack := [.ref a] } :: b :: r) := State.setFrames_setFrames _ _ _
          rw [this] at hgo
          exact hgo
        · cases h
      · cases h
    · cases h
  · cases h
end PZB
/-! ===== END ===== -/
end
section
/-! ===== athrow, and calls and returns of a synchronized method ===== -/
/-- a synchronized instance method: its locals -/
def pz_selS (pl : Platform) (vm : Vm) (cc : Nat) (r : MethodId) : Option (MethodId × Nat) := match selectMethod pl vm cc r with
  | .method m => match vm.method? m with
    | some meth => match meth.isAbstract, vm.classes[m.cls]? with
      | false, some kM => match kM.isInterface, meth.code, meth.locks, meth.isStatic with
        | false, some c, true, false => some (m, c.maxLocals)
        | _, _, _, _ => none
      | _, _ => none
    | none => none
  | _ => none
theorem pz_selS_ok {pl : Platform} {vm : Vm} {cc L : Nat} {r m : MethodId} (h : pz_selS pl vm cc r = some (m, L)) :
    selectMethod pl vm cc r = .method m ∧ ∃ meth mk c, vm.method? m = some meth ∧ meth.isAbstract = false ∧ vm.classes[m.cls]? = some mk ∧ mk.isInterface = false ∧ meth.code = some c ∧ meth.locks = true ∧ meth.isStatic = false ∧ c.maxLocals = L := by
  unfold pz_selS at h
  split at h
  · rename_i m' hs
    split at h
    · rename_i meth hm
      split at h
      · rename_i kM h1 hmk
        split at h
        · rename_i c h2 h3 h4 h5
          cases h
          exact ⟨hs, meth, kM, c, hm, h1, hmk, h2, h3, h4, h5, rfl⟩
        · cases h
      · cases h
    · cases h
  · cases h
abbrev pz_K : Type := List Cell → JFrame → List Frame → Option (List Cell × List Frame)
/-- calls and returns that write a monitor -/
noncomputable def pz_kop (e : Env) (vm : Vm) (cur : Nat) (d : Nat) (i : Instr) : Option pz_K := match i with
  | .invokevirtual idx => match pz_vt vm d idx with
    | some (r0, n) => some fun hp f r => match pz_args n f.stack with
      | some (args, .ref a :: st) => match pz_at hp a with
        | some cl0 => match cl0.vm, cl0.monitor.owner with
          | .none, none => match pz_n cl0.cls fun cc => pz_selS e.platform vm cc r0 with
            | some (m, L) => match pz_c1 (.ref a :: args), Nat.blt (r.length + 1) e.platform.maxFrames with
              | true, true => match Nat.ble (pz_use r + (f.locals.size + 11 + 2 * f.monitorRoom + operandWords st) + (L + 2) + 11) e.platform.maxStackSlots with
                | true => some (pz_set hp a (cl0.withEntry cur), .java { method := m, pc := 0, locals := ⟨pz_lo (.ref a :: args) L⟩, stack := [], locked := some a, monitorRoom := 1 } :: .java { f with stack := st } :: r)
                | false => none
              | _, _ => none
            | none => none
          | _, _ => none
        | none => none
      | _ => none
    | none => none
  | .areturn => some fun hp f r => match f.stack, f.locked, f.entered, r with
    | .ref x :: _, some a, [], .java g :: r' => match vm.method? f.method, pz_at hp a, e.platform.frameOwnsMonitors with
      | some meth, some cl0, true => match meth.locks, meth.sig.returnType, State.code? ({ vm := vm } : State) g.method with
        | true, some t, some cg => match t.isReference, pz_dec cg.code g.pc, cl0.monitor.owner with
          | true, some (_, len), some o => match Nat.beq o cur with
            | true => pz_n (g.pc + len) fun pc => some (pz_set hp a cl0.left, .java { g with pc := pc, stack := .ref x :: g.stack } :: r')
            | false => none
          | _, _, _ => none
        | _, _, _ => none
      | _, _, _ => none
    | _, _, _, _ => none
  | .athrow => some fun hp f r => match f.stack with
    | .ref a :: st => some (hp, .throwing a :: .java { f with stack := st } :: r)
    | _ => none
  | _ => none
/-! ===== END ===== -/
end
section
/-! ===== they do what they say ===== -/
section PZC
variable {p : Program} {e : Env} {S : State} {c : Code} {hp hp' : List Cell} {su : Nat} {f : JFrame} {r fs : List Frame}
theorem pz_setCellFrames (S : State) (hp : List Cell) (su : Nat) (fs gs : List Frame) (a : Nat) (x : Cell) : ((pz_C S hp su fs).setCell a x).setFrames gs = pz_C S (hp.set a x) su gs := by
  rw [pz_C_setCell]
  exact State.setFrames_setFrames _ _ _
theorem pz_kop_ok (hx : p.tables.exec = Jvm.exec) (hT : pz_thr S = true) {i : Instr} {len : Nat} {g : pz_K} (hd : decode c.code f.pc = .ok (i, len)) (X : At (pz_C S hp su (.java f :: r)) f.method c r)
    (h0 : pz_kop e S.vm S.cur f.method.cls i = some g) (h : g hp f r = some (hp', fs)) : Steps p.tables e r (pz_C S hp su (.java f :: r)) (pz_C S hp' su fs) := by
  have hcur := pz_thr_cur hT
  have hself : (pz_C S hp su (.java f :: r)).setTop f = pz_C S hp su (.java f :: r) := pz_C_top hcur
  unfold pz_kop at h0
  split at h0
  · split at h0
    · rename_i idx r0 n hi
      cases h0
      dsimp only at h
      split at h
      · rename_i args a st ha
        rw [pz_at_eq] at h
        split at h
        · rename_i cl0 hc
          split at h
          · rename_i hv hown
            rw [pz_n_eq] at h
            split at h
            · rename_i m L hsel
              split at h
              · rename_i g1 g2
                split at h
                · rename_i g3
                  cases h
                  obtain ⟨hlen, hst⟩ := pz_args_ok ha
                  obtain ⟨h1, h2, k, rm, h3, h4, h5, h6, h7⟩ := pz_vt_ok (s := pz_C S hp su (.java f :: r)) hi
                  obtain ⟨q1, meth, kM, c0, q2, q3, q4, q5, q6, q7, q8, q9⟩ := pz_selS_ok hsel
                  have hc1 : (pz_C S hp su (.java f :: r)).heap[a]? = some cl0 := (pz_C_get ..).trans hc
                  rw [← hself]
                  jvm_step X [X.top, hx, hd, invokevirtual.wp_ready (e := e) (s := pz_C S hp su (.java f :: r)) (f := f) (args := args) (rest := st) (m := m) (meth := meth) (mk := kM) X.top h1 h2 h3 h4 h5 h6 (hlen.trans h7.symm) hst hc1 (fun q hq => by rw [hv] at hq; cases hq) q1 q2 q3 q4 q5]
                  rw [pz_C_top hcur]
                  subst q9
                  have hroom : e.platform.stackFull (((pz_C S hp su (.java { f with stack := st } :: r)).threads[(pz_C S hp su (.java { f with stack := st } :: r)).cur]?).getD { frames := [] }) (pz_C S hp su (.java { f with stack := st } :: r)).frames (c0.maxLocals + 2) = false := by
                    rw [pz_C_frames hcur]
                    refine Platform.stackFull_plain (pz_C_thread hT) (Nat.le_of_ble_eq_true g2) ?_
                    rw [stackUse_java, ← pz_use_eq]
                    exact Nat.le_of_ble_eq_true g3
                  have hc2 : (pz_C S hp su (.java { f with stack := st } :: r)).heap[a]? = some cl0 := (pz_C_get ..).trans hc
                  have key : ∀ acts, (doInvoke e (pz_C S hp su (.java { f with stack := st } :: r)) acts m (.ref a :: args).toArray).1 = pz_C S (pz_set hp a (cl0.withEntry S.cur)) su (.java { method := m, pc := 0, locals := ⟨pz_lo (.ref a :: args) c0.maxLocals⟩, stack := [], locked := some a, monitorRoom := 1 } :: .java { f with stack := st } :: r) := by
                    intro acts
                    have h9 := (doInvoke_java_sync (e := e) (s := pz_C S hp su (.java { f with stack := st } :: r)) (acts := acts) (m := m) (args := (.ref a :: args).toArray) (meth := meth) (code := c0) (a := a) (cell := cl0) q2 q6 q7 q8 (by simp) hc2 (Or.inl hown) hroom).1
                    rw [h9, pz_set_eq]
                    show ((pz_C S hp su (.java { f with stack := st } :: r)).setCell a (cl0.withEntry S.cur)).setFrames (_ :: (pz_C S hp su (.java { f with stack := st } :: r)).frames) = _
                    rw [pz_C_frames hcur, pz_setCellFrames, entryFrameSync, pz_locs_eq _ _ g1]
                  first
                  | (intro acts; rw [key acts]; exact Steps.refl _)
                  | (rw [key _]; exact Steps.refl _)
                · cases h
              · cases h
            · cases h
          · cases h
        · cases h
      · cases h
    · cases h0
  · cases h0
    dsimp only at h
    split at h
    · rename_i x st a g r' hs hl hn
      split at h
      · rename_i meth cl0 hm hc hown
        rw [pz_at_eq] at hc
        split at h
        · rename_i t cg hlk hrt hcg
          split at h
          · rename_i i len o href hdg ho
            split at h
            · rename_i hocur
              rw [pz_n_eq] at h
              cases h
              have hoc := Nat.eq_of_beq_eq_true hocur
              subst hoc
              have hm1 : (pz_C S hp su (.java f :: .java g :: r')).vm.method? f.method = some meth := hm
              rw [← hself]
              jvm_step X [X.top, hx, hd, hs, hm1, hrt, href, show (Value.ref x).isRef = true from rfl]
              rw [pz_C_top hcur]
              have hc2 : (pz_C S hp su (.java { f with stack := st } :: .java g :: r')).heap[a]? = some cl0 := (pz_C_get ..).trans hc
              have hfs : handOver (pz_C S hp su (.java { f with stack := st } :: .java g :: r')) (some (.ref x)) (.java g :: r') = some (.java { g with pc := g.pc + len, stack := (some (Value.ref x)).toList ++ g.stack } :: r') := by
                have hcg1 : (pz_C S hp su (.java { f with stack := st } :: .java g :: r')).code? g.method = some cg := hcg
                simp [handOver, hcg1, pz_dec_ok hdg, Except.toOption]
              have key : ∀ acts, (doReturn e (pz_C S hp su (.java { f with stack := st } :: .java g :: r')) acts (some (.ref x))).1 = pz_C S (pz_set hp a cl0.left) su (.java { g with pc := g.pc + len, stack := .ref x :: g.stack } :: r') := by
                intro acts
                rw [doReturn_sync (s := pz_C S hp su (.java { f with stack := st } :: .java g :: r')) (f := { f with stack := st }) (below := .java g :: r') (cell := cl0) (a := a) hown (pz_C_frames hcur) hm hlk hl hn hc2 ho hfs, pz_setCellFrames, pz_set_eq]
                rfl
              first
              | (intro acts; rw [key acts]; exact Steps.refl _)
              | (rw [key _]; exact Steps.refl _)
            · cases h
          · cases h
        · cases h
      · cases h
    · cases h
  · cases h0
    dsimp only at h
    split at h
    · rename_i a st hs
      cases h
      rw [← hself]
      jvm_step X [X.top, hx, hd, hs]
      rw [pz_C_top hcur]
      have key : (pz_C S hp su (.java { f with stack := st } :: r)).pushFrame (.throwing a) = pz_C S hp su (.throwing a :: .java { f with stack := st } :: r) := by
        show (pz_C S hp su (.java { f with stack := st } :: r)).setFrames (_ :: (pz_C S hp su (.java { f with stack := st } :: r)).frames) = _
        rw [pz_C_frames hcur]
        exact State.setFrames_setFrames _ _ _
      rw [key]
      exact Steps.refl _
    · cases h
  · cases h0
end PZC
/-! ===== END ===== -/
end
section
/-! ===== the run, with exceptions and monitors ===== -/
noncomputable def pz_ek (e : Env) (vm : Vm) (b : ByteArray) (cur d pc : Nat) : Option pz_K := match pz_dec b pc with
  | some (i, _) => pz_kop e vm cur d i
  | none => none
noncomputable def pz_far3 (e : Env) (vm : Vm) (cur : Nat) (b : ByteArray) (hp : List Cell) (su : Nat) (f : JFrame) (r : List Frame) : Option (List Cell × Nat × List Frame) := match pz_far2 e vm b hp su f r with
  | some q => some q
  | none => match pz_n cur fun cur => pz_q2 f.method.cls f.pc fun d pc => pz_ek e vm b cur d pc with
    | some g => match g hp f r with
      | some (hp', fs) => some (hp', su, fs)
      | none => none
    | none => none
noncomputable def pz_one3 (e : Env) (vm : Vm) (cur : Nat) (hp : List Cell) (su : Nat) (fs : List Frame) : pz_A := match fs with
  | .java f :: b :: r => match pz_q2 f.method.cls f.method.idx fun i j => pz_code vm ⟨i, j⟩ with
    | some bs => pz_fr (pz_fast2 bs 400 f) fun f0 => match pz_far3 e vm cur bs hp su f0 (b :: r) with
      | some (hp', su', fs') => (true, hp', su', fs')
      | none => (false, hp, su, .java f0 :: b :: r)
    | none => (false, hp, su, fs)
  | .throwing a :: r => match pz_thrw vm hp (.throwing a :: r) with
    | some fs' => (true, hp, su, fs')
    | none => (false, hp, su, fs)
  | _ => (false, hp, su, fs)
noncomputable def pz_go3 (tb : Tables) (e : Env) (hs : Nat) : Nat → State → Vm → List Cell → Nat → List Frame → Bool
  | 0, _, _, _, _, _ => false
  | n + 1, S, vv, hp, su, fs => match pz_enough hs hp fs with
    | true => true
    | false => match pz_one3 e vv S.cur hp su fs with
      | (true, hp', su', fs') => pz_go3 tb e hs n S vv hp' su' fs'
      | (false, hp', su', fs') => match pz_chk (pz_C S hp' su' fs') with
        | false => false
        | true => pz_ss (stepThread tb e (pz_C S hp' su' fs')).1 fun S' => match pz_thr S', pz_live S', S'.heap with
          | true, true, ⟨l⟩ => pz_lq l fun l => pz_n S'.slotsUsed fun u => pz_vm S'.vm fun vm' => pz_go3 tb e hs n S' vm' l u S'.frames
          | _, _, _ => false
section PZD
variable {p : Program} {e : Env} {S : State}
theorem pz_far3_ok (hx : p.tables.exec = Jvm.exec) (hT : pz_thr S = true) {c : Code} {hp hp' : List Cell} {su su' : Nat} {f : JFrame} {r fs : List Frame} (X : At (pz_C S hp su (.java f :: r)) f.method c r)
    (h : pz_far3 e S.vm S.cur c.code hp su f r = some (hp', su', fs)) : Steps p.tables e r (pz_C S hp su (.java f :: r)) (pz_C S hp' su' fs) := by
  unfold pz_far3 at h
  split at h
  · rename_i q hq
    cases h
    exact pz_far2_ok hx hT X hq
  · rw [pz_n_eq, pz_q2_eq] at h
    split at h
    · rename_i g hg
      split at h
      · rename_i hp1 fs1 h1
        cases h
        unfold pz_ek at hg
        split at hg
        · rename_i i len hd0
          exact pz_kop_ok hx hT (pz_dec_ok hd0) X hg h1
        · cases hg
      · cases h
    · cases h
theorem pz_one3_ok (hx : p.tables.exec = Jvm.exec) (hT : pz_thr S = true) (hL : pz_live S = true) {hp hp' : List Cell} {su su' : Nat} {fs fs' : List Frame} {q : Bool} (h : pz_one3 e S.vm S.cur hp su fs = (q, hp', su', fs')) :
    pz_Go p.tables e (pz_C S hp su fs) (pz_C S hp' su' fs') := by
  have hcur := pz_thr_cur hT
  unfold pz_one3 at h
  split at h
  · rename_i f b r
    split at h
    · rename_i bs hb
      rw [pz_q2_eq] at hb
      have hb1 : pz_code S.vm f.method = some bs := hb
      obtain ⟨c, rfl, X⟩ := pz_mkAt (hp := hp) (su := su) (f := f) (r := b :: r) hT hL hb1
      have hself : (pz_C S hp su (.java f :: b :: r)).setTop f = pz_C S hp su (.java f :: b :: r) := pz_C_top hcur
      have hne : (b :: r) ≠ [] := by simp
      obtain ⟨hm, hfa⟩ := pz_fast2_ok (p := p) (e := e) (tg := (pz_C S hp su (.java f :: b :: r)).setTop (pz_fast2 c.code 400 f)) hx 400 f X
      have h0 : Steps p.tables e (b :: r) (pz_C S hp su (.java f :: b :: r)) (pz_C S hp su (.java (pz_fast2 c.code 400 f) :: b :: r)) := by
        have := hfa (Steps.refl _)
        rw [hself, pz_C_top hcur] at this
        exact this
      have X0 : At (pz_C S hp su (.java (pz_fast2 c.code 400 f) :: b :: r)) (pz_fast2 c.code 400 f).method c (b :: r) := by rw [hm]; exact pz_At hcur X
      rw [pz_fr_eq] at h
      split at h
      · rename_i hp1 su1 fs1 hfar
        cases h
        exact (pz_Go.of hne h0).trans (pz_Go.of hne (pz_far3_ok hx hT X0 hfar))
      · cases h
        exact pz_Go.of hne h0
    · cases h
      exact pz_Go.refl _
  · split at h
    · rename_i fs1 h1
      cases h
      exact pz_thrw_ok hT hL h1
    · cases h
      exact pz_Go.refl _
  · cases h
    exact pz_Go.refl _
theorem pz_go3_ok (hx : p.tables.exec = Jvm.exec) (hs : Nat) : ∀ (n : Nat) (S : State) (hp : List Cell) (su : Nat) (fs : List Frame), pz_thr S = true → pz_live S = true → pz_go3 p.tables e hs n S S.vm hp su fs = true →
    ∃ t, pz_Go p.tables e (pz_C S hp su fs) t ∧ hs < t.heap.size := by
  intro n
  induction n with
  | zero => intro S hp su fs _ _ h; cases h
  | succ n ih =>
    intro S hp su fs hT hL h
    unfold pz_go3 at h
    split at h
    · rename_i h2
      refine ⟨_, pz_Go.refl _, ?_⟩
      unfold pz_enough at h2
      split at h2
      · exact Nat.le_of_ble_eq_true h2
      · cases h2
    · split at h
      · rename_i hp' su' fs' h1
        obtain ⟨t, gt, ht⟩ := ih _ _ _ _ hT hL h
        exact ⟨t, (pz_one3_ok hx hT hL h1).trans gt, ht⟩
      · rename_i hp' su' fs' h1
        have g1 := pz_one3_ok (p := p) hx hT hL h1
        split at h
        · cases h
        · rename_i h3
          rw [pz_ss_eq] at h
          split at h
          · rename_i l h4 h5 h6
            rw [pz_lq_eq, pz_n_eq, pz_vm_eq] at h
            obtain ⟨t, gt, ht⟩ := ih _ _ _ _ h4 h5 h
            have h7 := pz_C_self h4
            rw [h6] at h7
            rw [h7] at gt
            exact ⟨t, (g1.trans (pz_Go.step h3)).trans gt, ht⟩
          · cases h
end PZD
/-! ===== END ===== -/
end
section
/-! ===== WHAT IS OWED ===== -/
/-- owed, and false: see pz_refuted; it stands here with its sorry for the sake of the printed rows behind it alone -/
theorem i_vc : Claimed_1_1 ∧ Claimed_1_2 := sorry
/-! ===== THE CLAIM IS FALSE: its room of 180 new cells is passed while the law's own frame still stands ===== -/
set_option maxRecDepth 100000 in
theorem pz_passed : pz_go3 start1.p0.tables start1.e0 (start1.about.heap.size + 180) 30000 start1.about start1.about.vm start1.about.heap.toList start1.about.slotsUsed start1.about.frames = true := by decide +kernel
/-- from the witness's start the run makes more than 180 new cells before the law's invocation ends: so its end isn't framed by 180 -/
theorem pz_refuted : ¬ Claimed_1_1 := by
  intro hA
  obtain ⟨hL, hW, had, -, hcas, hclk, hfr, hfit, hheap, happ, hcalls, hrest, hpre⟩ := start1.atStart
  obtain ⟨q, o, -, -, hend, -, -, -, hsame⟩ := hA launch0 rfl hL hW start1.p0 start1.e0 had hcas hclk start1.about _ start1.args0 Lib.HandBits.below0 hfr hfit hheap happ ⟨hcalls, hrest, hpre⟩
  have h0 : pz_thr start1.about = true := by decide +kernel
  obtain ⟨t, gt, ht⟩ := pz_go3_ok rfl _ _ _ _ _ _ h0 (by decide +kernel) pz_passed
  rw [pz_C_self h0] at gt
  obtain ⟨k, hk, wk⟩ := gt
  have hq : (stepsAlone start1.p0.tables start1.e0 q start1.about).heap.size ≤ start1.about.heap.size + 180 := hsame.2.2.1
  rcases Nat.lt_or_ge q k with hlt | hge
  · have h2 := pz_ended hend
    rw [wk q hlt] at h2
    cases h2
  · obtain ⟨d, rfl⟩ := Nat.exists_eq_add_of_le hge
    have h2 : (stepsAlone start1.p0.tables start1.e0 k start1.about).heap.size ≤ (stepsAlone start1.p0.tables start1.e0 (k + d) start1.about).heap.size := by
      rw [stepsAlone_add]
      exact stepsAlone_heap_le _ _ _ _
    rw [hk] at h2
    omega
/-- nothing of the owed statement is left -/
theorem pz_no_vc : ¬ (Claimed_1_1 ∧ Claimed_1_2) := fun h => pz_refuted h.1
end
