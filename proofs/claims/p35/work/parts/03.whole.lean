/-! ===== the run of a state: the frame's own instructions at once, the others one by one ===== -/
theorem pz_up_within {s : State} {below : List Frame} (h : Within s below) (hb : below ≠ []) : pz_up s.frames = true := by
  obtain ⟨above, hf, hne, ht⟩ := h
  rw [hf]
  cases above with
  | nil => exact absurd rfl hne
  | cons a as =>
    cases below with
    | nil => exact absurd rfl hb
    | cons b bs =>
      cases as with
      | nil => cases a <;> first | rfl | exact absurd rfl (ht _)
      | cons a2 as => cases a <;> cases as <;> rfl
/-- the machine comes from s to t, and nothing above the listener has ended on the way -/
def pz_Go (tb : Tables) (e : Env) (s t : State) : Prop := ∃ n, stepsAlone tb e n s = t ∧ ∀ k, k < n → pz_up (stepsAlone tb e k s).frames = true
theorem pz_Go.refl {tb : Tables} {e : Env} (s : State) : pz_Go tb e s s := ⟨0, rfl, fun _ h => absurd h (Nat.not_lt_zero _)⟩
theorem pz_Go.trans {tb : Tables} {e : Env} {s t u : State} (h : pz_Go tb e s t) (h' : pz_Go tb e t u) : pz_Go tb e s u := by
  obtain ⟨m, hm, wm⟩ := h
  obtain ⟨n, hn, wn⟩ := h'
  refine ⟨m + n, by rw [stepsAlone_add, hm, hn], fun k hk => ?_⟩
  rcases Nat.lt_or_ge k m with h | h
  · exact wm k h
  · obtain ⟨j, rfl⟩ := Nat.exists_eq_add_of_le h
    rw [stepsAlone_add, hm]
    exact wn j (by omega)
theorem pz_Go.of {tb : Tables} {e : Env} {s t : State} {below : List Frame} (hb : below ≠ []) (h : Steps tb e below s t) : pz_Go tb e s t := by
  obtain ⟨n, hn, wn⟩ := h
  exact ⟨n, hn, fun k hk => pz_up_within (wn k hk) hb⟩
def pz_chk (s : State) : Bool := match pz_up s.frames with
  | false => false
  | true => match s.status, s.curStatus?, s.alone with
    | .running, some .runnable, true => true
    | _, _, _ => false
theorem pz_chk_spec {s : State} (h : pz_chk s = true) : pz_up s.frames = true ∧ s.status = .running ∧ s.curStatus? = some .runnable ∧ s.alone = true := by
  unfold pz_chk at h
  split at h
  · cases h
  · rename_i hu
    split at h
    · rename_i h1 h2 h3
      exact ⟨hu, h1, h2, h3⟩
    · cases h
theorem pz_Go.step {tb : Tables} {e : Env} {s : State} (h : pz_chk s = true) : pz_Go tb e s (stepThread tb e s).1 := by
  obtain ⟨hu, h1, h2, h3⟩ := pz_chk_spec h
  refine ⟨1, by simp only [stepsAlone, h1, h2, h3], fun k hk => ?_⟩
  have : k = 0 := by omega
  subst this
  exact hu
def pz_plain (s : State) (m : MethodId) : Bool := match s.vm.classes[m.cls]? with
  | some k => plainName k.name
  | none => true
def pz_hot (s : State) : State := match s.frames with
  | .java f :: _ => match pz_plain s f.method with
    | false => s
    | true => match s.code? f.method with
      | some c => s.setTop (pz_fast c.code 400 f)
      | none => s
  | _ => s
theorem pz_hot_ok {p : Program} {e : Env} (hx : p.tables.exec = Jvm.exec) {s : State} (h : pz_chk s = true) : pz_Go p.tables e s (pz_hot s) ∧ pz_chk (pz_hot s) = true := by
  unfold pz_hot
  split
  · rename_i f r hf
    split
    · exact ⟨pz_Go.refl s, h⟩
    · rename_i hp
      split
      · rename_i c hc
        obtain ⟨hu, h1, h2, h3⟩ := pz_chk_spec h
        have htop : s.topJava? = some f := by unfold State.topJava?; rw [hf]
        have hi : s.topJava?.isSome := by rw [htop]; rfl
        have hr : r ≠ [] := by
          intro q
          rw [hf, q] at hu
          cases hu
        have hpl : s.plainMethod f.method := by
          intro k hk
          unfold pz_plain at hp
          rw [hk] at hp
          have hp2 : plainName k.name = true := hp
          rw [hp2]
          rfl
        have X : At s f.method c r := ⟨hi, ⟨[], by rw [hf]; rfl⟩, h1, h2, h3, hc, hpl⟩
        have hself : s.setTop f = s := State.setTop_self htop
        refine ⟨pz_Go.of hr ?_, ?_⟩
        · have := (pz_fast_ok (p := p) (e := e) (tg := s.setTop (pz_fast c.code 400 f)) hx 400 f X).2 (Steps.refl _)
          rw [hself] at this
          exact this
        · have hfr : (s.setTop (pz_fast c.code 400 f)).frames = .java (pz_fast c.code 400 f) :: r := by rw [State.frames_setTop' _ hi, hf]; rfl
          have q1 : (s.setTop (pz_fast c.code 400 f)).status = .running := h1
          have q2 : (s.setTop (pz_fast c.code 400 f)).curStatus? = some .runnable := by rw [State.curStatus?_setTop]; exact h2
          have q3 : (s.setTop (pz_fast c.code 400 f)).alone = true := by rw [State.alone_setTop]; exact h3
          unfold pz_chk
          rw [hfr, q1, q2, q3]
          cases r with
          | nil => exact absurd rfl hr
          | cons b bs => rfl
      · exact ⟨pz_Go.refl s, h⟩
  · exact ⟨pz_Go.refl s, h⟩
def pz_run (tb : Tables) (e : Env) (hs : Nat) : Nat → State → Bool
  | 0, _ => false
  | n + 1, s => match pz_big hs s with
    | true => true
    | false => match pz_chk s with
      | false => false
      | true => pz_run tb e hs n (stepThread tb e (pz_hot s)).1
theorem pz_run_ok {p : Program} {e : Env} (hx : p.tables.exec = Jvm.exec) (hs : Nat) : ∀ (n : Nat) (s : State), pz_run p.tables e hs n s = true →
    ∃ t, pz_Go p.tables e s t ∧ hs < t.heap.size := by
  intro n
  induction n with
  | zero => intro s h; cases h
  | succ n ih =>
    intro s h
    unfold pz_run at h
    split at h
    · rename_i hb
      refine ⟨s, pz_Go.refl s, ?_⟩
      unfold pz_big at hb
      split at hb
      · exact Nat.le_of_ble_eq_true hb
      · cases hb
    · split at h
      · cases h
      · rename_i hc
        obtain ⟨g1, c1⟩ := pz_hot_ok (e := e) hx hc
        obtain ⟨t, gt, ht⟩ := ih _ h
        exact ⟨t, (g1.trans (pz_Go.step c1)).trans gt, ht⟩
/-- a run that passes the claim's room while nothing has ended: the claim is false -/
theorem pz_false {n : Nat} (h : pz_run start1.p0.tables start1.e0 (start1.about.heap.size + 180) n start1.about = true) : ¬ Claimed_1_1 := by
  intro hA
  obtain ⟨hL, hW, had, -, hcas, hclk, hfr, hfit, hheap, happ, hcalls, hrest, hpre⟩ := start1.atStart
  obtain ⟨q, o, -, -, hend, -, -, -, hsame⟩ := hA launch0 rfl hL hW start1.p0 start1.e0 had hcas hclk start1.about _ start1.args0 Lib.HandBits.below0 hfr hfit hheap happ ⟨hcalls, hrest, hpre⟩
  obtain ⟨t, ⟨k, hk, wk⟩, ht⟩ := pz_run_ok rfl _ _ _ h
  have hq : (stepsAlone start1.p0.tables start1.e0 q start1.about).heap.size ≤ start1.about.heap.size + 180 := hsame.2.2.1
  rcases Nat.lt_or_ge q k with hlt | hge
  · have h1 := pz_ended hend
    rw [wk q hlt] at h1
    cases h1
  · obtain ⟨d, rfl⟩ := Nat.exists_eq_add_of_le hge
    have h2 : (stepsAlone start1.p0.tables start1.e0 k start1.about).heap.size ≤ (stepsAlone start1.p0.tables start1.e0 (k + d) start1.about).heap.size := by
      rw [stepsAlone_add]
      exact stepsAlone_heap_le _ _ _ _
    rw [hk] at h2
    omega
/-! ===== END ===== -/
