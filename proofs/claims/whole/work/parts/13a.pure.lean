/-! ===== the pure part: tools ===== -/
abbrev nM : Int32 := -1
theorem neg1 : (-1 : Int32) = nM := rfl
theorem il0 : (0 : Int32) = nI 0 := rfl
theorem il1 : (1 : Int32) = nI 1 := rfl
theorem il2 : (2 : Int32) = nI 2 := rfl
theorem il3 : (3 : Int32) = nI 3 := rfl
theorem il4 : (4 : Int32) = nI 4 := rfl
theorem il5 : (5 : Int32) = nI 5 := rfl
theorem il6 : (6 : Int32) = nI 6 := rfl
theorem il10 : (10 : Int32) = nI 10 := rfl
theorem il14 : (14 : Int32) = nI 14 := rfl
theorem il15 : (15 : Int32) = nI 15 := rfl
theorem il30 : (30 : Int32) = nI 30 := rfl
theorem il40 : (40 : Int32) = nI 40 := rfl
theorem il60 : (60 : Int32) = nI 60 := rfl
theorem il100 : (100 : Int32) = nI 100 := rfl
theorem il512 : (512 : Int32) = nI 512 := rfl
theorem il10000 : (10000 : Int32) = nI 10000 := rfl
theorem nM_lt0 : nM < 0 := by decide
theorem nI_nM {n : Nat} (h : n < 2 ^ 31) : ¬ nI n = nM := fun e => by
  have h1 := nI_pos h
  rw [e] at h1
  exact h1 nM_lt0
theorem nM_nI {n : Nat} (h : n < 2 ^ 31) : ¬ nM = nI n := fun e => nI_nM h e.symm
theorem nM_toInt : nM.toInt = -1 := by decide
theorem nI_in9 {n N : Nat} (h : n < N) (hN : N < 2 ^ 31) : inb (nI n) N = true := decide_eq_true (vp_in_nI h hN)
theorem chk_in {α : Type} {n N : Nat} {x : Option α} (h : n < N) (hN : N < 2 ^ 31) : chk (inb (nI n) N) x = x := by rw [nI_in9 h hN]; rfl
theorem stp_e {α : Type} {v : tyS} {k : tyS → Option α} : stp v k = k v := rfl
theorem bR_s {α β : Type} {a : α} {k : α → Option β} : bR (some a) k = k a := rfl
theorem bN_s {β : Type} {a : Int32} {σ : tyS} {k : Int32 → tyS → Option β} : bN (some (a, σ)) k = k a σ := rfl
theorem bX_r {r : Int32} {σ : tyS} {k : Int32 → tyS → Option tyX} : bX (some (0, r, σ)) k = k r σ := rfl
theorem bX_1 {r : Int32} {σ : tyS} {k : Int32 → tyS → Option tyX} : bX (some (1, r, σ)) k = some (1, 0, σ) := rfl
theorem bX_2 {r : Int32} {σ : tyS} {k : Int32 → tyS → Option tyX} : bX (some (2, r, σ)) k = some (2, 0, σ) := rfl
theorem bX_3 {r : Int32} {σ : tyS} {k : Int32 → tyS → Option tyX} : bX (some (3, r, σ)) k = some (3, 0, σ) := rfl
/-- what a step leaves alone -/
def Fr (as vs : List Nat) (σ τ : tyS) : Prop := (∀ a, a ∉ as → τ.1 a = σ.1 a) ∧ ∀ v, v ∉ vs → τ.2 v = σ.2 v
theorem Fr.rf {σ : tyS} {as vs : List Nat} : Fr as vs σ σ := ⟨fun _ _ => rfl, fun _ _ => rfl⟩
theorem Fr.a {as vs : List Nat} {σ τ : tyS} (h : Fr as vs σ τ) (a : Nat) (ha : a ∉ as := by decide) : τ.1 a = σ.1 a := h.1 a ha
theorem Fr.v {as vs : List Nat} {σ τ : tyS} (h : Fr as vs σ τ) (v : Nat) (hv : v ∉ vs := by decide) : τ.2 v = σ.2 v := h.2 v hv
theorem Fr.tr {as vs bs us : List Nat} {σ τ υ : tyS} (h : Fr as vs σ τ) (k : Fr bs us τ υ) : Fr (as ++ bs) (vs ++ us) σ υ := ⟨fun a ha => by rw [k.1 a (fun h2 => ha (List.mem_append_right _ h2)), h.1 a (fun h2 => ha (List.mem_append_left _ h2))], fun v hv => by rw [k.2 v (fun h2 => hv (List.mem_append_right _ h2)), h.2 v (fun h2 => hv (List.mem_append_left _ h2))]⟩
theorem Fr.mono {as vs bs us : List Nat} {σ τ : tyS} (h : Fr as vs σ τ) (h1 : ∀ a ∈ as, a ∈ bs) (h2 : ∀ v ∈ vs, v ∈ us) : Fr bs us σ τ := ⟨fun a ha => h.1 a (fun q => ha (h1 a q)), fun v hv => h.2 v (fun q => hv (h2 v q))⟩
theorem sA_eq {σ : tyS} {a : Nat} {f : Nat → Int32} : (sA σ a f).1 a = f := if_pos rfl
theorem sA_ne {σ : tyS} {a b : Nat} {f : Nat → Int32} (h : b ≠ a) : (sA σ a f).1 b = σ.1 b := if_neg h
theorem sA_v {σ : tyS} {a : Nat} {f : Nat → Int32} : (sA σ a f).2 = σ.2 := rfl
theorem sV_a {σ : tyS} {v : Nat} {x : Int32} : (sV σ v x).1 = σ.1 := rfl
theorem sV_eq {σ : tyS} {v : Nat} {x : Int32} : (sV σ v x).2 v = x := if_pos rfl
theorem sV_ne {σ : tyS} {v u : Nat} {x : Int32} (h : u ≠ v) : (sV σ v x).2 u = σ.2 u := if_neg h
theorem sW_eq {σ : tyS} {a n : Nat} {x : Int32} (h : n < 2 ^ 31) : (sW σ a (nI n) x).1 a = upd (σ.1 a) n x := by unfold sW; rw [sA_eq, nI_clamp h]
theorem sW_ne {σ : tyS} {a b : Nat} {i x : Int32} (h : b ≠ a) : (sW σ a i x).1 b = σ.1 b := sA_ne h
theorem sW_v {σ : tyS} {a : Nat} {i x : Int32} : (sW σ a i x).2 = σ.2 := rfl
theorem Fr.sW {σ : tyS} {a : Nat} {i x : Int32} : Fr [a] [] σ (sW σ a i x) := ⟨fun b hb => sW_ne (fun e => hb (by rw [e]; exact List.mem_singleton.mpr rfl)), fun _ _ => rfl⟩
theorem Fr.sV {σ : tyS} {v : Nat} {x : Int32} : Fr [] [v] σ (sV σ v x) := ⟨fun _ _ => rfl, fun u hu => sV_ne (fun e => hu (by rw [e]; exact List.mem_singleton.mpr rfl))⟩
theorem upd_eq {f : Nat → Int32} {k : Nat} {x : Int32} : upd f k x k = x := if_pos rfl
theorem upd_ne {f : Nat → Int32} {k j : Nat} {x : Int32} (h : j ≠ k) : upd f k x j = f j := if_neg h
theorem upd_same {f : Nat → Int32} {k : Nat} : upd f k (f k) = f := by
  funext j
  unfold upd
  by_cases h : j = k
  · rw [if_pos h, h]
  · rw [if_neg h]
theorem upd_id {f : Nat → Int32} {k : Nat} {x : Int32} (h : f k = x) : upd f k x = f := by rw [← h]; exact upd_same
/-- an argument is below 0, at least n, or one of 0 .. n-1 -/
theorem arg3 (p : Int32) (n : Nat) (hn : n < 2 ^ 31) : p < 0 ∨ nI n ≤ p ∨ ∃ j, j < n ∧ p = nI j := pk_ix p hn
theorem nI_nlt0 {n : Nat} (h : n < 2 ^ 31) : ¬ nI n < 0 := nI_pos h
theorem nI_lt0 {n : Nat} (h : n < 2 ^ 31) : ¬ nI n < nI 0 := nI_pos h
theorem i_not_le {x y : Int32} (h : x < y) : ¬ y ≤ x := Int32.not_le.mpr h
theorem i_le_tr {x y z : Int32} (h : x ≤ y) (h2 : y ≤ z) : x ≤ z := Int32.le_trans h h2
theorem i_lt_le {x y z : Int32} (h : x < y) (h2 : y ≤ z) : x < z := Int32.lt_of_lt_of_le h h2
/-! lists by place -/
def setL (L : Nat → List Nat) (r : Nat) (x : List Nat) : Nat → List Nat := fun q => if q = r then x else L q
theorem setL_eq {L : Nat → List Nat} {r : Nat} {x : List Nat} : setL L r x r = x := if_pos rfl
theorem setL_ne {L : Nat → List Nat} {r q : Nat} {x : List Nat} (h : q ≠ r) : setL L r x q = L q := if_neg h
