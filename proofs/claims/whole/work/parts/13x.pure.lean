/-! ===== the pure part: the start ===== -/
theorem ini27 : iniC.1 27 = iniM.1 7 := by
  funext s
  show (if s < 6 then (-1 : Int32) else 0) = _
  match s with
  | 0 => rfl
  | 1 => rfl
  | 2 => rfl
  | 3 => rfl
  | 4 => rfl
  | 5 => rfl
  | s + 6 =>
    rw [if_neg (by omega)]
    show (0 : Int32) = upd (upd (upd (upd (upd (upd (fun _ => 0) 0 (-1)) 1 (-1)) 2 (-1)) 3 (-1)) 4 (-1)) 5 (-1) (s + 6)
    rw [upd_ne (by omega), upd_ne (by omega), upd_ne (by omega), upd_ne (by omega), upd_ne (by omega), upd_ne (by omega)]
theorem ini28 : iniC.1 28 = iniM.1 8 := by
  funext s
  show (if s < 3 then (1 : Int32) else 0) = _
  match s with
  | 0 => rfl
  | 1 => rfl
  | 2 => rfl
  | s + 3 =>
    rw [if_neg (by omega)]
    show (0 : Int32) = upd (upd (upd (fun _ => 0) 0 1) 1 1) 2 1 (s + 3)
    rw [upd_ne (by omega), upd_ne (by omega), upd_ne (by omega)]
theorem inv_init : Inv 0 iniC iniM := by
  have n0 : ∀ {p : Prop} (i : Nat), i < 0 → p := fun i h => absurd h (Nat.not_lt_zero i)
  refine ⟨fun _ => [], fun _ => [], 0, 0, 0, 0, 0, Nat.le_refl _, ?_, ?_, ?_, ?_, ?_, ?_⟩
  · refine ⟨?_, ?_, ?_, ?_, ?_, ?_, ?_, ?_, ?_, ?_, ?_, ?_, ?_, ?_, ?_⟩
    · refine ⟨fun r hr => ⟨Nat.zero_le _, rfl, fun i x h => by simp at h⟩, rfl, fun r _ => rfl⟩
    · exact ⟨fun r _ => ⟨List.nodup_nil, fun w h => absurd h List.not_mem_nil⟩, fun r s w _ _ h => absurd h List.not_mem_nil, fun w h => n0 w h⟩
    · exact fun r _ w h => absurd h List.not_mem_nil
    · exact fun r hr => ⟨Nat.zero_le _, rfl, fun i x h => by simp at h⟩
    · exact Nat.zero_le _
    · rfl
    · rfl
    · exact Nat.zero_le _
    · rfl
    · rfl
    · rfl
    · exact fun t h => n0 t h
    · exact fun r _ _ => rfl
    · exact fun t h => n0 t h
    · exact fun t _ _ => rfl
  · refine ⟨?_, ?_, ?_⟩
    · exact fun w h => n0 w h
    · intro w _ h
      show (if w < 30 then (-1 : Int32) else 0) = _
      rw [if_pos h]
    · intro a ha
      refine ⟨0, by decide, rfl, fun b hb => ?_⟩
      have : ∀ b, b < 4 → (0 : Int32) = nI ((0 >>> b) % 2) := by decide
      exact this b hb
  · refine ⟨?_, ?_, ?_, ?_, ?_, ?_, ?_, ?_, ?_, ?_, ?_, ?_, ?_, ?_, ?_, ?_⟩
    · rfl
    · rfl
    · exact Nat.zero_le _
    · rfl
    · rfl
    · rfl
    · rfl
    · rfl
    · rfl
    · rfl
    · exact fun b h => n0 b h
    · exact fun b h => n0 b h
    · exact fun b _ _ => rfl
    · exact fun w h => n0 w h
    · exact fun b h => n0 b h
    · intro w _ h
      show (if w < 30 then (-1 : Int32) else 0) = _
      rw [if_pos h]
  · refine ⟨?_, ?_, ?_, ?_, ?_, ?_, ?_, ?_, ?_, ?_, ?_, ?_, ?_, ?_, ?_, ?_, ?_⟩
    · rfl
    · rfl
    · exact Nat.zero_le _
    · rfl
    · rfl
    · rfl
    · exact ini27
    · exact ini28
    · exact fun i h => n0 i h
    · exact fun i h => n0 i h
    · exact fun i h => n0 i h
    · exact fun i h => n0 i h
    · exact fun i h => n0 i h
    · intro q h
      refine Or.inl ?_
      show (if q < 6 then (-1 : Int32) else 0) = _
      rw [if_pos h]
    · exact fun i h => n0 i h
    · intro s h
      refine Or.inl ?_
      rw [← ini27]
      show (if s < 6 then (-1 : Int32) else 0) = _
      rw [if_pos h]
    · exact fun i h => n0 i h
  · constructor
    · exact fun r _ _ w h => absurd h List.not_mem_nil
    · exact Nat.zero_le _
  · exact ⟨rfl, rfl⟩
