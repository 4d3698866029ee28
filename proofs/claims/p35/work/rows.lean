section
/-! ===== a run that is looked at step by step: until the heap has passed a size, there are frames above the listener ===== -/
/-- no invocation above the listener has ended: two frames at least, and not an exception alone above the listener -/
def pz_up : List Frame → Bool
  | .throwing _ :: _ :: _ :: _ => true
  | .throwing _ :: _ => false
  | _ :: _ :: _ => true
  | _ => false
theorem pz_ended {s : State} {o : Outcome} (h : Ended s Lib.HandBits.below0 o) : pz_up s.frames = false := by
  cases o with
  | threw a =>
    have h1 : s.frames = .throwing a :: Lib.HandBits.below0 := h
    rw [h1]
    rfl
  | returned v =>
    have h1 : ∃ g, s.frames = [Frame.native g] := ⟨_, h⟩
    obtain ⟨g, hg⟩ := h1
    rw [hg]
    rfl
/-- has the heap passed the size hs? asked where an exception is looked for a handler alone -/
def pz_big (hs : Nat) (s : State) : Bool := match s.frames with
  | .throwing _ :: _ => Nat.blt hs s.heap.size
  | _ => false
/-! ===== END ===== -/
end
section
/-! ===== instructions that touch the frame alone, many at once ===== -/
def pz_n {β : Type} (n : Nat) (k : Nat → β) : β := match n with
  | 0 => k 0
  | m + 1 => k (m + 1)
theorem pz_n_eq {β : Type} (n : Nat) (k : Nat → β) : pz_n n k = k n := by cases n <;> rfl
def pz_i {β : Type} (x : Int32) (k : Int32 → β) : β := pz_n x.toUInt32.toNat fun n => k (Int32.ofNat n)
theorem pz_i_eq {β : Type} (x : Int32) (k : Int32 → β) : pz_i x k = k x := by
  unfold pz_i
  rw [pz_n_eq]
  congr 1
  obtain ⟨⟨b⟩⟩ := x
  show (⟨⟨BitVec.ofNat 32 b.toNat⟩⟩ : Int32) = ⟨⟨b⟩⟩
  rw [BitVec.ofNat_toNat, BitVec.setWidth_eq]
noncomputable def pz_at {α : Type} (l : List α) : Nat → Option α := List.rec (fun _ => none) (fun a _ ih n => Nat.rec (some a) (fun m _ => ih m) n) l
theorem pz_at_eq {α : Type} (l : List α) : ∀ n, pz_at l n = l[n]? := by
  induction l with
  | nil => intro n; rfl
  | cons a l ih =>
    intro n
    cases n with
    | zero => rfl
    | succ n => exact (ih n).trans (by simp)
def pz_loc (f : JFrame) (k : Nat) : Option Slot := match f.locals with
  | ⟨l⟩ => l[k]?
theorem pz_loc_eq (f : JFrame) (k : Nat) : pz_loc f k = f.locals[k]? := by
  unfold pz_loc
  cases h : f.locals with
  | mk l => simp
def pz_push (f : JFrame) (len : Nat) (v : Value) : Option JFrame := pz_n (f.pc + len) fun pc => some { f with pc := pc, stack := v :: f.stack }
/-- one instruction of the frame alone -/
def pz_f1 (i : Instr) (len : Nat) (f : JFrame) : Option JFrame := match i with
  | .iload k => match pz_loc f k with
    | some (.val (.int x)) => pz_push f len (.int x)
    | _ => none
  | .iload_n k => match pz_loc f k with
    | some (.val (.int x)) => pz_push f len (.int x)
    | _ => none
  | .aload k => match pz_loc f k with
    | some (.val (.ref x)) => pz_push f len (.ref x)
    | _ => none
  | .aload_n k => match pz_loc f k with
    | some (.val (.ref x)) => pz_push f len (.ref x)
    | _ => none
  | .iconst n => pz_i (Int32.ofInt n) fun x => pz_push f len (.int x)
  | .bipush n => pz_i (Int8.ofInt n).toInt32 fun x => pz_push f len (.int x)
  | .sipush n => pz_i (Int16.ofInt n).toInt32 fun x => pz_push f len (.int x)
  | .iadd => match f.stack with
    | .int y :: .int x :: r => pz_i (x + y) fun z => pz_push { f with stack := r } len (.int z)
    | _ => none
  | .isub => match f.stack with
    | .int y :: .int x :: r => pz_i (x - y) fun z => pz_push { f with stack := r } len (.int z)
    | _ => none
  | .imul => match f.stack with
    | .int y :: .int x :: r => pz_i (x * y) fun z => pz_push { f with stack := r } len (.int z)
    | _ => none
  | .istore k => match f.stack with
    | .int x :: r => match storeLocals f.locals k (.int x) with
      | some ls => pz_n (f.pc + len) fun pc => some { f with pc := pc, locals := ls, stack := r }
      | none => none
    | _ => none
  | .istore_n k => match f.stack with
    | .int x :: r => match storeLocals f.locals k (.int x) with
      | some ls => pz_n (f.pc + len) fun pc => some { f with pc := pc, locals := ls, stack := r }
      | none => none
    | _ => none
  | .iinc k n => match pz_loc f k with
    | some (.val (.int x)) => pz_i (x + Int32.ofInt n) fun z => match storeLocals f.locals k (.int z) with
      | some ls => pz_n (f.pc + len) fun pc => some { f with pc := pc, locals := ls }
      | none => none
    | _ => none
  | .goto off => match (f.pc : Int) + off with
    | .ofNat t => pz_n t fun pc => some { f with pc := pc }
    | .negSucc _ => none
  | .if_icmp c off => match f.stack with
    | .int y :: .int x :: r => match Op.if_icmp.holds c x y with
      | true => match (f.pc : Int) + off with
        | .ofNat t => pz_n t fun pc => some { f with pc := pc, stack := r }
        | .negSucc _ => none
      | false => pz_n (f.pc + len) fun pc => some { f with pc := pc, stack := r }
    | _ => none
  | .ifCond c off => match f.stack with
    | .int x :: r => match Op.ifCond.holds c x with
      | true => match (f.pc : Int) + off with
        | .ofNat t => pz_n t fun pc => some { f with pc := pc, stack := r }
        | .negSucc _ => none
      | false => pz_n (f.pc + len) fun pc => some { f with pc := pc, stack := r }
    | _ => none
  | _ => none
section PZ1
variable {p : Program} {e : Env} {below : List Frame} {T tg : State} {c : Code}
theorem pz_f1_ok (hx : p.tables.exec = Jvm.exec) {f f' : JFrame} {i : Instr} {len : Nat} (hd : decode c.code f.pc = .ok (i, len)) (h1 : pz_f1 i len f = some f') (X : At T f.method c below) :
    f'.method = f.method ∧ (Steps p.tables e below (T.setTop f') tg → Steps p.tables e below (T.setTop f) tg) := by
  unfold pz_f1 at h1
  split at h1
  case h_1 k =>
    split at h1
    · rename_i x hl
      rw [pz_loc_eq] at hl
      simp only [pz_push, pz_n_eq, Option.some.injEq] at h1
      subst h1
      refine ⟨rfl, fun a => ?_⟩
      jvm_step X [X.top, hx, hd, hl]
      exact a
    · cases h1
  case h_2 k =>
    split at h1
    · rename_i x hl
      rw [pz_loc_eq] at hl
      simp only [pz_push, pz_n_eq, Option.some.injEq] at h1
      subst h1
      refine ⟨rfl, fun a => ?_⟩
      jvm_step X [X.top, hx, hd, hl]
      exact a
    · cases h1
  case h_3 k =>
    split at h1
    · rename_i x hl
      rw [pz_loc_eq] at hl
      simp only [pz_push, pz_n_eq, Option.some.injEq] at h1
      subst h1
      refine ⟨rfl, fun a => ?_⟩
      jvm_step X [X.top, hx, hd, hl]
      exact ⟨rfl, a⟩
    · cases h1
  case h_4 k =>
    split at h1
    · rename_i x hl
      rw [pz_loc_eq] at hl
      simp only [pz_push, pz_n_eq, Option.some.injEq] at h1
      subst h1
      refine ⟨rfl, fun a => ?_⟩
      jvm_step X [X.top, hx, hd, hl]
      exact ⟨rfl, a⟩
    · cases h1
  case h_5 n =>
    simp only [pz_i_eq, pz_push, pz_n_eq, Option.some.injEq] at h1
    subst h1
    refine ⟨rfl, fun a => ?_⟩
    jvm_step X [X.top, hx, hd]
    exact a
  case h_6 n =>
    simp only [pz_i_eq, pz_push, pz_n_eq, Option.some.injEq] at h1
    subst h1
    refine ⟨rfl, fun a => ?_⟩
    jvm_step X [X.top, hx, hd]
    exact a
  case h_7 n =>
    simp only [pz_i_eq, pz_push, pz_n_eq, Option.some.injEq] at h1
    subst h1
    refine ⟨rfl, fun a => ?_⟩
    jvm_step X [X.top, hx, hd]
    exact a
  case h_8 =>
    split at h1
    · rename_i y x r hs
      simp only [pz_i_eq, pz_push, pz_n_eq, Option.some.injEq] at h1
      subst h1
      refine ⟨rfl, fun a => ?_⟩
      jvm_step X [X.top, hx, hd, hs]
      exact a
    · cases h1
  case h_9 =>
    split at h1
    · rename_i y x r hs
      simp only [pz_i_eq, pz_push, pz_n_eq, Option.some.injEq] at h1
      subst h1
      refine ⟨rfl, fun a => ?_⟩
      jvm_step X [X.top, hx, hd, hs]
      exact a
    · cases h1
  case h_10 =>
    split at h1
    · rename_i y x r hs
      simp only [pz_i_eq, pz_push, pz_n_eq, Option.some.injEq] at h1
      subst h1
      refine ⟨rfl, fun a => ?_⟩
      jvm_step X [X.top, hx, hd, hs]
      exact a
    · cases h1
  case h_11 k =>
    split at h1
    · rename_i x r hs
      split at h1
      · rename_i ls hl
        simp only [pz_n_eq, Option.some.injEq] at h1
        subst h1
        refine ⟨rfl, fun a => ?_⟩
        jvm_step X [X.top, ↓top_set X.top, hx, hd, hs, hl]
        exact a
      · cases h1
    · cases h1
  case h_12 k =>
    split at h1
    · rename_i x r hs
      split at h1
      · rename_i ls hl
        simp only [pz_n_eq, Option.some.injEq] at h1
        subst h1
        refine ⟨rfl, fun a => ?_⟩
        jvm_step X [X.top, ↓top_set X.top, hx, hd, hs, hl]
        exact a
      · cases h1
    · cases h1
  case h_13 k n =>
    split at h1
    · rename_i x hk
      rw [pz_loc_eq] at hk
      rw [pz_i_eq] at h1
      split at h1
      · rename_i ls hl
        simp only [pz_n_eq, Option.some.injEq] at h1
        subst h1
        refine ⟨rfl, fun a => ?_⟩
        jvm_step X [X.top, ↓top_set X.top, hx, hd, hk, hl]
        exact a
      · cases h1
    · cases h1
  case h_14 off =>
    split at h1
    · rename_i t ht
      simp only [pz_n_eq, Option.some.injEq] at h1
      subst h1
      refine ⟨rfl, fun a => ?_⟩
      jvm_step X [X.top, hx, hd, ht]
      exact a
    · cases h1
  case h_15 cc off =>
    split at h1
    · rename_i y x r hs
      split at h1
      · rename_i hc
        split at h1
        · rename_i t ht
          simp only [pz_n_eq, Option.some.injEq] at h1
          subst h1
          refine ⟨rfl, fun a => ?_⟩
          jvm_step X [X.top, hx, hd, hs, hc, ht]
          exact a
        · cases h1
      · rename_i hc
        simp only [pz_n_eq, Option.some.injEq] at h1
        subst h1
        refine ⟨rfl, fun a => ?_⟩
        jvm_step X [X.top, hx, hd, hs, hc]
        exact a
    · cases h1
  case h_16 cc off =>
    split at h1
    · rename_i x r hs
      split at h1
      · rename_i hc
        split at h1
        · rename_i t ht
          simp only [pz_n_eq, Option.some.injEq] at h1
          subst h1
          refine ⟨rfl, fun a => ?_⟩
          jvm_step X [X.top, hx, hd, hs, hc, ht]
          exact a
        · cases h1
      · rename_i hc
        simp only [pz_n_eq, Option.some.injEq] at h1
        subst h1
        refine ⟨rfl, fun a => ?_⟩
        jvm_step X [X.top, hx, hd, hs, hc]
        exact a
    · cases h1
  case h_17 => cases h1
def pz_dec (b : ByteArray) (pc : Nat) : Option (Instr × Nat) := match pz_n pc fun q => decode b q with
  | .ok r => some r
  | .error _ => none
def pz_fast (b : ByteArray) : Nat → JFrame → JFrame
  | 0, f => f
  | n + 1, f => match pz_dec b f.pc with
    | none => f
    | some (i, len) => match pz_f1 i len f with
      | some f' => pz_fast b n f'
      | none => f
theorem pz_fast_ok (hx : p.tables.exec = Jvm.exec) : ∀ (n : Nat) (f : JFrame), At T f.method c below →
    (pz_fast c.code n f).method = f.method ∧ (Steps p.tables e below (T.setTop (pz_fast c.code n f)) tg → Steps p.tables e below (T.setTop f) tg) := by
  intro n
  induction n with
  | zero => intro f X; exact ⟨rfl, fun a => a⟩
  | succ n ih =>
    intro f X
    unfold pz_fast
    split
    · exact ⟨rfl, fun a => a⟩
    · rename_i i len hd0
      have hd : decode c.code f.pc = .ok (i, len) := by
        unfold pz_dec at hd0
        rw [pz_n_eq] at hd0
        split at hd0
        · rename_i r hr
          cases hd0
          exact hr
        · cases hd0
      split
      · rename_i f' h1
        obtain ⟨m1, s1⟩ := pz_f1_ok (p := p) (e := e) (tg := tg) hx hd h1 X
        obtain ⟨m2, s2⟩ := ih f' (m1 ▸ X)
        exact ⟨m2.trans m1, fun a => s1 (s2 a)⟩
      · exact ⟨rfl, fun a => a⟩
end PZ1
/-! ===== END ===== -/
end
section
/-! ===== the run of a state: the frame's own instructions at once, the others one by one ===== -/
theorem pz_up_within {s : State} {below : List Frame} (h : Within s below) (hb : below ≠ []) : pz_up s.frames = true := by
  obtain ⟨above, hf, hne, ht⟩ := h
  rw [hf]
  cases above with
  | nil => exact absurd rfl hne
  | cons a as =>
    cases below with
    | nil => exact absurd rfl hb
    | cons b bs =>
      cases as with
      | nil => cases a <;> first | rfl | exact absurd rfl (ht _)
      | cons a2 as => cases a <;> cases as <;> rfl
/-- the machine comes from s to t, and nothing above the listener has ended on the way -/
def pz_Go (tb : Tables) (e : Env) (s t : State) : Prop := ∃ n, stepsAlone tb e n s = t ∧ ∀ k, k < n → pz_up (stepsAlone tb e k s).frames = true
theorem pz_Go.refl {tb : Tables} {e : Env} (s : State) : pz_Go tb e s s := ⟨0, rfl, fun _ h => absurd h (Nat.not_lt_zero _)⟩
theorem pz_Go.trans {tb : Tables} {e : Env} {s t u : State} (h : pz_Go tb e s t) (h' : pz_Go tb e t u) : pz_Go tb e s u := by
  obtain ⟨m, hm, wm⟩ := h
  obtain ⟨n, hn, wn⟩ := h'
  refine ⟨m + n, by rw [stepsAlone_add, hm, hn], fun k hk => ?_⟩
  rcases Nat.lt_or_ge k m with h | h
  · exact wm k h
  · obtain ⟨j, rfl⟩ := Nat.exists_eq_add_of_le h
    rw [stepsAlone_add, hm]
    exact wn j (by omega)
theorem pz_Go.of {tb : Tables} {e : Env} {s t : State} {below : List Frame} (hb : below ≠ []) (h : Steps tb e below s t) : pz_Go tb e s t := by
  obtain ⟨n, hn, wn⟩ := h
  exact ⟨n, hn, fun k hk => pz_up_within (wn k hk) hb⟩
def pz_chk (s : State) : Bool := match pz_up s.frames with
  | false => false
  | true => match s.status, s.curStatus?, s.alone with
    | .running, some .runnable, true => true
    | _, _, _ => false
theorem pz_chk_spec {s : State} (h : pz_chk s = true) : pz_up s.frames = true ∧ s.status = .running ∧ s.curStatus? = some .runnable ∧ s.alone = true := by
  unfold pz_chk at h
  split at h
  · cases h
  · rename_i hu
    split at h
    · rename_i h1 h2 h3
      exact ⟨hu, h1, h2, h3⟩
    · cases h
theorem pz_Go.step {tb : Tables} {e : Env} {s : State} (h : pz_chk s = true) : pz_Go tb e s (stepThread tb e s).1 := by
  obtain ⟨hu, h1, h2, h3⟩ := pz_chk_spec h
  refine ⟨1, by simp only [stepsAlone, h1, h2, h3], fun k hk => ?_⟩
  have : k = 0 := by omega
  subst this
  exact hu
def pz_plain (s : State) (m : MethodId) : Bool := match s.vm.classes[m.cls]? with
  | some k => plainName k.name
  | none => true
def pz_hot (s : State) : State := match s.frames with
  | .java f :: _ => match pz_plain s f.method with
    | false => s
    | true => match s.code? f.method with
      | some c => s.setTop (pz_fast c.code 400 f)
      | none => s
  | _ => s
theorem pz_hot_ok {p : Program} {e : Env} (hx : p.tables.exec = Jvm.exec) {s : State} (h : pz_chk s = true) : pz_Go p.tables e s (pz_hot s) ∧ pz_chk (pz_hot s) = true := by
  unfold pz_hot
  split
  · rename_i f r hf
    split
    · exact ⟨pz_Go.refl s, h⟩
    · rename_i hp
      split
      · rename_i c hc
        obtain ⟨hu, h1, h2, h3⟩ := pz_chk_spec h
        have htop : s.topJava? = some f := by unfold State.topJava?; rw [hf]
        have hi : s.topJava?.isSome := by rw [htop]; rfl
        have hr : r ≠ [] := by
          intro q
          rw [hf, q] at hu
          cases hu
        have hpl : s.plainMethod f.method := by
          intro k hk
          unfold pz_plain at hp
          rw [hk] at hp
          have hp2 : plainName k.name = true := hp
          rw [hp2]
          rfl
        have X : At s f.method c r := ⟨hi, ⟨[], by rw [hf]; rfl⟩, h1, h2, h3, hc, hpl⟩
        have hself : s.setTop f = s := State.setTop_self htop
        refine ⟨pz_Go.of hr ?_, ?_⟩
        · have := (pz_fast_ok (p := p) (e := e) (tg := s.setTop (pz_fast c.code 400 f)) hx 400 f X).2 (Steps.refl _)
          rw [hself] at this
          exact this
        · have hfr : (s.setTop (pz_fast c.code 400 f)).frames = .java (pz_fast c.code 400 f) :: r := by rw [State.frames_setTop' _ hi, hf]; rfl
          have q1 : (s.setTop (pz_fast c.code 400 f)).status = .running := h1
          have q2 : (s.setTop (pz_fast c.code 400 f)).curStatus? = some .runnable := by rw [State.curStatus?_setTop]; exact h2
          have q3 : (s.setTop (pz_fast c.code 400 f)).alone = true := by rw [State.alone_setTop]; exact h3
          unfold pz_chk
          rw [hfr, q1, q2, q3]
          cases r with
          | nil => exact absurd rfl hr
          | cons b bs => rfl
      · exact ⟨pz_Go.refl s, h⟩
  · exact ⟨pz_Go.refl s, h⟩
def pz_run (tb : Tables) (e : Env) (hs : Nat) : Nat → State → Bool
  | 0, _ => false
  | n + 1, s => match pz_big hs s with
    | true => true
    | false => match pz_chk s with
      | false => false
      | true => pz_run tb e hs n (stepThread tb e (pz_hot s)).1
theorem pz_run_ok {p : Program} {e : Env} (hx : p.tables.exec = Jvm.exec) (hs : Nat) : ∀ (n : Nat) (s : State), pz_run p.tables e hs n s = true →
    ∃ t, pz_Go p.tables e s t ∧ hs < t.heap.size := by
  intro n
  induction n with
  | zero => intro s h; cases h
  | succ n ih =>
    intro s h
    unfold pz_run at h
    split at h
    · rename_i hb
      refine ⟨s, pz_Go.refl s, ?_⟩
      unfold pz_big at hb
      split at hb
      · exact Nat.le_of_ble_eq_true hb
      · cases hb
    · split at h
      · cases h
      · rename_i hc
        obtain ⟨g1, c1⟩ := pz_hot_ok (e := e) hx hc
        obtain ⟨t, gt, ht⟩ := ih _ h
        exact ⟨t, (g1.trans (pz_Go.step c1)).trans gt, ht⟩
/-- a run that passes the claim's room while nothing has ended: the claim is false -/
theorem pz_false {n : Nat} (h : pz_run start1.p0.tables start1.e0 (start1.about.heap.size + 180) n start1.about = true) : ¬ Claimed_1_1 := by
  intro hA
  obtain ⟨hL, hW, had, -, hcas, hclk, hfr, hfit, hheap, happ, hcalls, hrest, hpre⟩ := start1.atStart
  obtain ⟨q, o, -, -, hend, -, -, -, hsame⟩ := hA launch0 rfl hL hW start1.p0 start1.e0 had hcas hclk start1.about _ start1.args0 Lib.HandBits.below0 hfr hfit hheap happ ⟨hcalls, hrest, hpre⟩
  obtain ⟨t, ⟨k, hk, wk⟩, ht⟩ := pz_run_ok rfl _ _ _ h
  have hq : (stepsAlone start1.p0.tables start1.e0 q start1.about).heap.size ≤ start1.about.heap.size + 180 := hsame.2.2.1
  rcases Nat.lt_or_ge q k with hlt | hge
  · have h1 := pz_ended hend
    rw [wk q hlt] at h1
    cases h1
  · obtain ⟨d, rfl⟩ := Nat.exists_eq_add_of_le hge
    have h2 : (stepsAlone start1.p0.tables start1.e0 k start1.about).heap.size ≤ (stepsAlone start1.p0.tables start1.e0 (k + d) start1.about).heap.size := by
      rw [stepsAlone_add]
      exact stepsAlone_heap_le _ _ _ _
    rw [hk] at h2
    omega
/-! ===== END ===== -/
end
section
/-! ===== WHAT IS OWED ===== -/
theorem i_vc : Claimed_1_1 ∧ Claimed_1_2 := sorry
set_option maxRecDepth 100000 in
theorem pz_t1 : pz_run start1.p0.tables start1.e0 (start1.about.heap.size + 0) 40 start1.about = false := by decide +kernel
end
