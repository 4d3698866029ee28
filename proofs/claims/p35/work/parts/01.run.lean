/-! ===== a run that is looked at step by step: until the heap has passed a size, there are frames above the listener ===== -/
/-- no invocation above the listener has ended: two frames at least, and not an exception alone above the listener -/
def pz_up : List Frame → Bool
  | .throwing _ :: _ :: _ :: _ => true
  | .throwing _ :: _ => false
  | _ :: _ :: _ => true
  | _ => false
theorem pz_ended {s : State} {o : Outcome} (h : Ended s Lib.HandBits.below0 o) : pz_up s.frames = false := by
  cases o with
  | threw a =>
    have h1 : s.frames = .throwing a :: Lib.HandBits.below0 := h
    rw [h1]
    rfl
  | returned v =>
    have h1 : ∃ g, s.frames = [Frame.native g] := ⟨_, h⟩
    obtain ⟨g, hg⟩ := h1
    rw [hg]
    rfl
/-- has the heap passed the size hs? asked where an exception is looked for a handler alone -/
def pz_big (hs : Nat) (s : State) : Bool := match s.frames with
  | .throwing _ :: _ => Nat.blt hs s.heap.size
  | _ => false
/-! ===== END ===== -/
