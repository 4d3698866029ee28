/-! ===== two worlds side by side ===== -/
theorem va_P.lf {D : va_G} {cl : List vw_C} {a b : va_W} {H : Heap} (h : va_P D cl (a ++ b) H) : va_P D cl a H := fun k q hk => h k q (by rw [List.getElem?_append_left (List.getElem?_eq_some_iff.mp hk).1]; exact hk)
theorem va_P.rt {D : va_G} {cl : List vw_C} {a b : va_W} {H : Heap} (h : va_P D cl (a ++ b) H) : va_P D cl b H := fun k q hk => h (a.length + k) q (by rw [List.getElem?_append_right (by omega), show a.length + k - a.length = k by omega]; exact hk)
theorem va_D.lf {A : Nat → Prop} {a b : va_W} (h : va_D A (a ++ b)) : va_D A a := ⟨fun i j p q hi hj hx => h.1 i j p q (by rw [List.getElem?_append_left (List.getElem?_eq_some_iff.mp hi).1]; exact hi) (by rw [List.getElem?_append_left (List.getElem?_eq_some_iff.mp hj).1]; exact hj) hx, fun k q hk => h.2 k q (by rw [List.getElem?_append_left (List.getElem?_eq_some_iff.mp hk).1]; exact hk)⟩
theorem va_D.rt {A : Nat → Prop} {a b : va_W} (h : va_D A (a ++ b)) : va_D A b := ⟨fun i j p q hi hj hx => by
  have := h.1 (a.length + i) (a.length + j) p q (by rw [List.getElem?_append_right (by omega), show a.length + i - a.length = i by omega]; exact hi) (by rw [List.getElem?_append_right (by omega), show a.length + j - a.length = j by omega]; exact hj) hx
  omega, fun k q hk => h.2 (a.length + k) q (by rw [List.getElem?_append_right (by omega), show a.length + k - a.length = k by omega]; exact hk)⟩
theorem va_D.cross {A : Nat → Prop} {a b : va_W} (h : va_D A (a ++ b)) {i j : Nat} {p q : Nat × va_E} (hi : a[i]? = some p) (hj : b[j]? = some q) : p.1 ≠ q.1 := fun hx => by
  have hl := (List.getElem?_eq_some_iff.mp hi).1
  have := h.1 i (a.length + j) p q (by rw [List.getElem?_append_left hl]; exact hi) (by rw [List.getElem?_append_right (by omega), show a.length + j - a.length = j by omega]; exact hj) hx
  omega
theorem va_D.swp {A : Nat → Prop} {a b : va_W} (h : va_D A (a ++ b)) : va_D A (b ++ a) := va_D.app h.rt h.lf (fun _ _ _ _ hp hq hx => h.cross hq hp hx.symm)
theorem va_P.swp {D : va_G} {cl : List vw_C} {a b : va_W} {H : Heap} (h : va_P D cl (a ++ b) H) : va_P D cl (b ++ a) H := va_P.app h.rt h.lf
/-- behind a call that knew the first of two worlds only: the second stands -/
theorem gl_join {A0 : Nat → Prop} {D : va_G} {cl : List vw_C} {wc wr w1 : va_W} {H H1 : Heap} (hP : va_P D cl (wc ++ wr) H) (hD : va_D A0 (wc ++ wr)) (hk : ∀ q : Nat, q < H.size → ¬ va_A wc H.size q → H1[q]? = H[q]?) (hF : ∀ q, va_A wc H.size q → A0 q) (hP1 : va_P D cl w1 H1) (hD1 : va_D (va_A wc H.size) w1) : va_P D cl (w1 ++ wr) H1 ∧ va_D A0 (w1 ++ wr) := by
  have apart : ∀ (j : Nat) (q : Nat × va_E), wr[j]? = some q → q.1 < H.size ∧ ¬ va_A wc H.size q.1 := by
    intro j q hq
    have hl := (hP.rt j q hq).lt
    refine ⟨hl, ?_⟩
    rintro (⟨k2, e, h⟩ | h)
    · exact hD.cross h hq rfl
    · omega
  refine ⟨va_P.app hP1 (fun j q hq => (hP.rt j q hq).kept (hk q.1 (apart j q hq).1 (apart j q hq).2)), va_D.app (hD1.weaken (fun _ _ _ h => hF _ h)) hD.rt (fun i j p q hp hq hx => (apart j q hq).2 (by rw [← hx]; exact hD1.2 i p hp))⟩
section GL
variable {p : Program} {l : Launch} {e : Env} {R : Room} {s : State} {m : MethodId} {args : Array Value} {below : List Frame} {meth : Method} {c : Code} {H : Heap} {locs : List Loc} {Q : State → Prop}
variable {y : MethodName} {bytes cc : ByteArray} {maxL nL n index : Nat} {ret : Option FieldType} {ws : List Cond} {rm : Room} {Ts : List Cond} {own C : String} {b : Addr} {As rest st0 : List Value} {pc : Nat} {ls : Array Slot} {D : va_G} {w : tyS → va_W} {tys : List (ClassId × FieldType)} {A : Nat → Prop} {σ τ : tyS} {r : Int32} {res : tyX}
/-- a run of a call that may throw, both ways, with the frame -/
theorem gl_runi {rest2 : List Value} (hrun : ty_Run p l e R s m args below meth c H locs 0 0 1 6 (F0 m pc ls st0) rest (gQXi D w tys (va_A (w σ) H.size) res rest2.toArray) (gXC D w tys (va_A (w σ) H.size) res) (va_A (w σ) H.size))
    (hD : va_D A (w σ)) (hS : va_S A s.heap H locs) (hA : ∀ q, s.heap.size ≤ q → A q)
    (kx : ∀ (E : String) (ce : Cell) (q : Nat) (τ : tyS) (H1 : Heap) (locs1 : List Loc), (∃ k, res = (k + 1, 0, τ) ∧ E = exn (k + 1)) → va_P D vwCl (w τ) H1 → va_D (va_A (w σ) H.size) (w τ) → (∀ q : Nat, q < H.size → ¬ va_A (w σ) H.size q → H1[q]? = H[q]?) → va_S A s.heap H1 locs1 → H1[q]? = some ce → ce.vm = .none → s.vm.findClass E = some ce.cls → vx_W p l e R s m args below meth c H1 locs1 (0 + 1) (0 + 6) Q (F0 m pc ls rest) q)
    (kk : ∀ (r : Int32) (τ : tyS) (H1 : Heap) (locs1 : List Loc), res = (0, r, τ) → va_P D vwCl (w τ) H1 → va_D (va_A (w σ) H.size) (w τ) → (∀ q : Nat, q < H.size → ¬ va_A (w σ) H.size q → H1[q]? = H[q]?) → va_S A s.heap H1 locs1 → W p l e R s m args below meth c H1 locs1 0 0 Q (F0 m (pc + 3) ls (.int r :: rest))) : W p l e R s m args below meth c H locs 0 0 Q (F0 m pc ls st0) := by
  have hF := gFree hD hS hA
  intro T hT X
  rcases hrun T hT X with ⟨v, st₀, t, T', L, h0, X', hL, e1, e2, ⟨⟨r1, u, hv, hp, hP1, hK1, hD1⟩, hFF⟩, st⟩ | ⟨q, st₀, t, T', L, E, ce, h0, X', hL, e1, e2, ⟨u, -, ⟨hres, hP1, hK1, hD1⟩, hFF⟩, hce, hcv, hcl, st⟩
  · cases hv
    obtain ⟨k1, k2, k3⟩ := vx_keep h0 e1 hS (fun q _ hq => hF q hq) hF hL hFF
    obtain ⟨t2, a1, b1⟩ := kk r1 u T'.heap (locs ++ L) hp (by rw [e1]; exact hP1) hD1 k2 k3 T' rfl X'
    exact ⟨t2, st t2 a1, b1⟩
  · obtain ⟨k1, k2, k3⟩ := vx_keep h0 e1 hS (fun q _ hq => hF q hq) hF hL hFF
    obtain ⟨t2, a1, b1⟩ := kx E ce q u T'.heap (locs ++ L) hres (by rw [e1]; exact hP1) hD1 k2 k3 (by rw [e1]; exact hce) hcv hcl T' rfl X'
    exact ⟨t2, st.trans a1, b1⟩
theorem gl_runv {rest2 : List Value} (hrun : ty_Run p l e R s m args below meth c H locs 0 0 1 6 (F0 m pc ls st0) rest (gQXv D w tys (va_A (w σ) H.size) res rest2.toArray) (gXC D w tys (va_A (w σ) H.size) res) (va_A (w σ) H.size))
    (hD : va_D A (w σ)) (hS : va_S A s.heap H locs) (hA : ∀ q, s.heap.size ≤ q → A q)
    (kx : ∀ (E : String) (ce : Cell) (q : Nat) (τ : tyS) (H1 : Heap) (locs1 : List Loc), (∃ k, res = (k + 1, 0, τ) ∧ E = exn (k + 1)) → va_P D vwCl (w τ) H1 → va_D (va_A (w σ) H.size) (w τ) → (∀ q : Nat, q < H.size → ¬ va_A (w σ) H.size q → H1[q]? = H[q]?) → va_S A s.heap H1 locs1 → H1[q]? = some ce → ce.vm = .none → s.vm.findClass E = some ce.cls → vx_W p l e R s m args below meth c H1 locs1 (0 + 1) (0 + 6) Q (F0 m pc ls rest) q)
    (kk : ∀ (τ : tyS) (H1 : Heap) (locs1 : List Loc), res = (0, 0, τ) → va_P D vwCl (w τ) H1 → va_D (va_A (w σ) H.size) (w τ) → (∀ q : Nat, q < H.size → ¬ va_A (w σ) H.size q → H1[q]? = H[q]?) → va_S A s.heap H1 locs1 → W p l e R s m args below meth c H1 locs1 0 0 Q (F0 m (pc + 3) ls rest)) : W p l e R s m args below meth c H locs 0 0 Q (F0 m pc ls st0) := by
  have hF := gFree hD hS hA
  intro T hT X
  rcases hrun T hT X with ⟨v, st₀, t, T', L, h0, X', hL, e1, e2, ⟨⟨u, hv, hp, hP1, hK1, hD1⟩, hFF⟩, st⟩ | ⟨q, st₀, t, T', L, E, ce, h0, X', hL, e1, e2, ⟨u, -, ⟨hres, hP1, hK1, hD1⟩, hFF⟩, hce, hcv, hcl, st⟩
  · cases hv
    obtain ⟨k1, k2, k3⟩ := vx_keep h0 e1 hS (fun q _ hq => hF q hq) hF hL hFF
    obtain ⟨t2, a1, b1⟩ := kk u T'.heap (locs ++ L) hp (by rw [e1]; exact hP1) hD1 k2 k3 T' rfl X'
    exact ⟨t2, st t2 a1, b1⟩
  · obtain ⟨k1, k2, k3⟩ := vx_keep h0 e1 hS (fun q _ hq => hF q hq) hF hL hFF
    obtain ⟨t2, a1, b1⟩ := kx E ce q u T'.heap (locs ++ L) hres (by rw [e1]; exact hP1) hD1 k2 k3 (by rw [e1]; exact hce) hcv hcl T' rfl X'
    exact ⟨t2, st.trans a1, b1⟩
end GL
theorem ty_ofWH {l : Launch} {y : MethodName} {ws ws' : List Cond} {rm : Room} {Pc : Array Value → State → Prop} {Qc : Array Value → State → Outcome → State → Prop} {mc ms : Nat} {free : Addr → Prop} {cc : ByteArray} {maxL : Nat} {ret : Option FieldType} {hh : List (Nat × Nat × Nat × Nat)}
    (hy : plainName y.cls = true) (hw : ws = Cond.codeWith y cc maxL ret hh :: ws')
    (body : ∀ p e s m args below meth c s₁, BodyLoose p l y (headSpec ws rm) cc maxL ret e s m args below meth c s₁ → c.maxLocals = maxL → Pc args s →
      W p l e (headSpec ws rm).room s m args below meth c s.heap [] 0 0 (MQ below Qc args s mc ms free) (entryFrame m args maxL)) : Met l y ws rm Pc Qc mc ms free := by
  refine MetFree.of_bodyS (code := cc) (maxLocals := maxL) (ret := ret) hy ?_ ?_
  · intro args s m h hn
    obtain ⟨m9, meth, c, hn9, h1, h2, h3, h4, -, h5, h6, -⟩ := Cond.codeWith_spec (atoms_spec (ws := ws) h _ (by rw [hw]; exact List.mem_cons_self))
    cases hn.symm.trans hn9
    exact ⟨meth, c, h1, h2, h3, h4, h5, h6⟩
  · intro p e s m args below meth c s₁ B hml hP _
    have hh0 : s₁.heap = s.heap := by rw [B.state]; rfl
    obtain ⟨t, a1, o, b1, b2, b3⟩ := body p e s m args below meth c s₁ B hml hP s₁ hh0 (Stand.of_body B)
    exact ⟨t, o, a1, b1, b2, ⟨b3.1, b3.2⟩⟩
/-! ===== the helpers' world: the class's, and the one-place array for answers ===== -/
def wO (o : Nat) (cO : ClassId) (g : Nat → Int64) : va_W := [(o, .inl (cO, 1, .inr (.inl g)))]
def wH (ad : Nat → Nat) (cA : Nat → ClassId) (o : Nat) (cO : ClassId) (σ : tyS) (g : Nat → Int64) : va_W := wC ad cA σ ++ wO o cO g
def tH (cA : Nat → ClassId) (cO : ClassId) : List (ClassId × FieldType) := tC cA ++ [(cO, .long)]
theorem wH_32 (ad : Nat → Nat) (cA : Nat → ClassId) (o : Nat) (cO : ClassId) (σ : tyS) (g : Nat → Int64) : (wH ad cA o cO σ g)[32]? = some (o, .inl (cO, 1, .inr (.inl g))) := rfl
theorem tH_26 (cA : Nat → ClassId) (cO : ClassId) : (tH cA cO)[26]? = some (cO, .long) := rfl
theorem wHs_32 (ad : Nat → Nat) (cA : Nat → ClassId) (o : Nat) (cO : ClassId) (σ : tyS) (g f : Nat → Int64) : (wH ad cA o cO σ g).set 32 (o, .inl (cO, 1, .inr (.inl f))) = wH ad cA o cO σ f := rfl
theorem tH_C (cA : Nat → ClassId) (cO : ClassId) {D : va_G} {U : State} (h : va_K D vwCl (tH cA cO) U) : va_K D vwCl (tC cA) U := ⟨h.1, fun k q hk => h.2 k q (by unfold tH; rw [List.getElem?_append_left (List.getElem?_eq_some_iff.mp hk).1]; exact hk)⟩
def gNcs : List (String × String) := [(exn 1, exn 2), (exn 1, exn 3), (exn 2, exn 1), (exn 2, exn 3), (exn 3, exn 1), (exn 3, exn 2)]
def gNC (U : State) : Prop := ∀ q ∈ gNcs, va_Nc q.1 q.2 U
theorem gNC.moved {u U : State} (hv : u.vm.Alike U.vm) (h : gNC u) : gNC U := fun q hq => va_Nc.moved hv (h q hq)
def gCl : List Cond := [.classLink RL 13 (exn 1), .classLink RL 15 (exn 2), .classLink RL 36 (exn 3)]
def gCL (U : State) : Prop := ∀ w ∈ gCl, ∀ a : Array Value, w.before a U = true
theorem gCL.warm {s U : State} (hW : s.WarmedH U.vm) (h : gCL s) : gCL U := by
  intro w hw a
  refine word_at (args := #[]) hW (Or.inl ?_) (h w hw #[])
  simp only [gCl, List.mem_cons, List.not_mem_nil, or_false] at hw
  rcases hw with rfl | rfl | rfl <;> rfl
def hPre (D : va_G) (ad : Nat → Nat) (cA : Nat → ClassId) (o : Nat) (cO : ClassId) (sz : Nat) (σ : tyS) (g : Nat → Int64) (U : State) : Prop := U.heap.size = sz ∧ va_P D vwCl (wH ad cA o cO σ g) U.heap ∧ va_K D vwCl (tH cA cO) U ∧ va_D (fun _ => True) (wH ad cA o cO σ g) ∧ gNN U ∧ gOK gStr (va_A (wH ad cA o cO σ g) sz) U U.heap ∧ gNC U ∧ gCL U
def hB (D : va_G) (ad : Nat → Nat) (cA : Nat → ClassId) (o : Nat) (cO : ClassId) (A : Nat → Prop) (u : tyS × (Nat → Int64)) (t : State) : Prop := va_P D vwCl (wH ad cA o cO u.1 u.2) t.heap ∧ va_K D vwCl (tH cA cO) t ∧ va_D A (wH ad cA o cO u.1 u.2)
abbrev hQ (D : va_G) (ad : Nat → Nat) (cA : Nat → ClassId) (o : Nat) (cO : ClassId) (A : Nat → Prop) (kk : Nat) (v : Int64) (τ : tyS) : Array Value → State → Outcome → State → Prop := va_Qi (fun (r' : Int32) (u : tyS × (Nat → Int64)) => r' = nI kk ∧ u.1 = τ ∧ (kk = 0 → u.2 0 = v)) (hB D ad cA o cO A) A
abbrev hMet (l : Launch) (y : MethodName) (ws : List Cond) (rm : Room) (D : va_G) (ad : Nat → Nat) (cA : Nat → ClassId) (o : Nat) (cO : ClassId) (av : List Value) (sz : Nat) (σ : tyS) (g : Nat → Int64) (kk : Nat) (v : Int64) (τ : tyS) : Prop :=
  Met l y ws rm (va_Pc av (hPre D ad cA o cO sz σ g)) (hQ D ad cA o cO (va_A (wH ad cA o cO σ g) sz) kk v τ) 1 6 (va_A (wH ad cA o cO σ g) sz)
theorem hPre_blind {D : va_G} {ad : Nat → Nat} {cA : Nat → ClassId} {o : Nat} {cO : ClassId} {av : List Value} {sz : Nat} {σ : tyS} {g : Nat → Int64} : FrameBlind (va_Pc av (hPre D ad cA o cO sz σ g)) := by
  rintro a U g9 mk ⟨h0, h1, h2, h3, h4, h5, ⟨z1, z2, z3, z4⟩, h7, h8⟩
  exact ⟨h0, h1, h2, va_K.moved (u := U) (U := U.calling g9 mk a) (Vm.Alike.refl U.vm) h3, h4, gNN.same (u := U) rfl h5, ⟨vx_Zq.moved (u := U) (Vm.Alike.refl U.vm) z1, vx_Zq.moved (u := U) (Vm.Alike.refl U.vm) z2, fun w hw => va_Nw.same (by simp only [gNw, List.mem_cons, List.not_mem_nil, or_false] at hw; rcases hw with rfl | rfl | rfl | rfl | rfl | rfl <;> rfl) (u := U) rfl (z3 w hw), fun q hq => by obtain ⟨sa, h⟩ := z4 q hq; exact ⟨sa, vk_R.same (u := U) rfl h⟩⟩, gNC.moved (u := U) (Vm.Alike.refl U.vm) h7, gCL.warm (s := U) (U := U.calling g9 mk a) (State.WarmedH.refl U) h8⟩
/-- what the helper answers: 0, or the place of the exception in the throws clause, from 1 on -/
def kOf (codes : List Nat) (c : Nat) : Option Nat := if c = 0 then some 0 else (codes.idxOf? c).map (· + 1)
theorem vp_in_01 : vp_in 0 1 := by unfold vp_in; decide
theorem va_A_lf {a b : va_W} {sz : Nat} : ∀ q, va_A a sz q → va_A (a ++ b) sz q := by
  rintro q (⟨k, e, h⟩ | h)
  · exact Or.inl ⟨k, e, by rw [List.getElem?_append_left (List.getElem?_eq_some_iff.mp h).1]; exact h⟩
  · exact Or.inr h
theorem gNw_use {args : Array Value} {s : State} (h : ∀ w ∈ gNw, va_Nw w s) {w : Cond} (hw : w ∈ gNw) : w.before args s = true := va_Nw.use (by simp only [gNw, List.mem_cons, List.not_mem_nil, or_false] at hw; rcases hw with rfl | rfl | rfl | rfl | rfl | rfl <;> rfl) (h w hw)
/-- mend: no answer, no array -/
abbrev hQv (D : va_G) (ad : Nat → Nat) (cA : Nat → ClassId) (o : Nat) (cO : ClassId) (A : Nat → Prop) (kk : Nat) (g : Nat → Int64) (τ : tyS) : Array Value → State → Outcome → State → Prop := va_Qi (fun (r' : Int32) (u : tyS × (Nat → Int64)) => r' = nI kk ∧ u.1 = τ ∧ u.2 = g) (hB D ad cA o cO A) A
abbrev hMetv (l : Launch) (y : MethodName) (ws : List Cond) (rm : Room) (D : va_G) (ad : Nat → Nat) (cA : Nat → ClassId) (o : Nat) (cO : ClassId) (av : List Value) (sz : Nat) (σ : tyS) (g : Nat → Int64) (kk : Nat) (τ : tyS) : Prop :=
  Met l y ws rm (va_Pc av (hPre D ad cA o cO sz σ g)) (hQv D ad cA o cO (va_A (wH ad cA o cO σ g) sz) kk g τ) 1 6 (va_A (wH ad cA o cO σ g) sz)
theorem hd_X4_wagon : yX4_wagon.cls = RX4 ∧ yX4_wagon.cls ≠ "java/lang/invoke/MethodHandle" ∧ yX4_wagon.cls ≠ "java/lang/invoke/VarHandle" ∧ (parseMethodDescriptor yX4_wagon.desc).map (fun d => d.parameters.length) = some 2 := by decide +kernel
theorem hd_X4_shunt : yX4_shunt.cls = RX4 ∧ yX4_shunt.cls ≠ "java/lang/invoke/MethodHandle" ∧ yX4_shunt.cls ≠ "java/lang/invoke/VarHandle" ∧ (parseMethodDescriptor yX4_shunt.desc).map (fun d => d.parameters.length) = some 4 := by decide +kernel
theorem hd_X4_wash : yX4_wash.cls = RX4 ∧ yX4_wash.cls ≠ "java/lang/invoke/MethodHandle" ∧ yX4_wash.cls ≠ "java/lang/invoke/VarHandle" ∧ (parseMethodDescriptor yX4_wash.desc).map (fun d => d.parameters.length) = some 1 := by decide +kernel
theorem hd_X4_follow : yX4_follow.cls = RX4 ∧ yX4_follow.cls ≠ "java/lang/invoke/MethodHandle" ∧ yX4_follow.cls ≠ "java/lang/invoke/VarHandle" ∧ (parseMethodDescriptor yX4_follow.desc).map (fun d => d.parameters.length) = some 2 := by decide +kernel
theorem hd_X4_on : yX4_on.cls = RX4 ∧ yX4_on.cls ≠ "java/lang/invoke/MethodHandle" ∧ yX4_on.cls ≠ "java/lang/invoke/VarHandle" ∧ (parseMethodDescriptor yX4_on.desc).map (fun d => d.parameters.length) = some 2 := by decide +kernel
theorem hd_X4_at : yX4_at.cls = RX4 ∧ yX4_at.cls ≠ "java/lang/invoke/MethodHandle" ∧ yX4_at.cls ≠ "java/lang/invoke/VarHandle" ∧ (parseMethodDescriptor yX4_at.desc).map (fun d => d.parameters.length) = some 3 := by decide +kernel
theorem hd_X4_atByReplay : yX4_atByReplay.cls = RX4 ∧ yX4_atByReplay.cls ≠ "java/lang/invoke/MethodHandle" ∧ yX4_atByReplay.cls ≠ "java/lang/invoke/VarHandle" ∧ (parseMethodDescriptor yX4_atByReplay.desc).map (fun d => d.parameters.length) = some 3 := by decide +kernel
theorem hd_X4_where : yX4_where.cls = RX4 ∧ yX4_where.cls ≠ "java/lang/invoke/MethodHandle" ∧ yX4_where.cls ≠ "java/lang/invoke/VarHandle" ∧ (parseMethodDescriptor yX4_where.desc).map (fun d => d.parameters.length) = some 1 := by decide +kernel
theorem hd_X4_carried : yX4_carried.cls = RX4 ∧ yX4_carried.cls ≠ "java/lang/invoke/MethodHandle" ∧ yX4_carried.cls ≠ "java/lang/invoke/VarHandle" ∧ (parseMethodDescriptor yX4_carried.desc).map (fun d => d.parameters.length) = some 1 := by decide +kernel
theorem hd_X4_promised : yX4_promised.cls = RX4 ∧ yX4_promised.cls ≠ "java/lang/invoke/MethodHandle" ∧ yX4_promised.cls ≠ "java/lang/invoke/VarHandle" ∧ (parseMethodDescriptor yX4_promised.desc).map (fun d => d.parameters.length) = some 1 := by decide +kernel
theorem hd_X4_call : yX4_call.cls = RX4 ∧ yX4_call.cls ≠ "java/lang/invoke/MethodHandle" ∧ yX4_call.cls ≠ "java/lang/invoke/VarHandle" ∧ (parseMethodDescriptor yX4_call.desc).map (fun d => d.parameters.length) = some 2 := by decide +kernel
theorem hd_X4_ask : yX4_ask.cls = RX4 ∧ yX4_ask.cls ≠ "java/lang/invoke/MethodHandle" ∧ yX4_ask.cls ≠ "java/lang/invoke/VarHandle" ∧ (parseMethodDescriptor yX4_ask.desc).map (fun d => d.parameters.length) = some 2 := by decide +kernel
theorem hd_X4_confirm : yX4_confirm.cls = RX4 ∧ yX4_confirm.cls ≠ "java/lang/invoke/MethodHandle" ∧ yX4_confirm.cls ≠ "java/lang/invoke/VarHandle" ∧ (parseMethodDescriptor yX4_confirm.desc).map (fun d => d.parameters.length) = some 1 := by decide +kernel
theorem hd_X4_resume : yX4_resume.cls = RX4 ∧ yX4_resume.cls ≠ "java/lang/invoke/MethodHandle" ∧ yX4_resume.cls ≠ "java/lang/invoke/VarHandle" ∧ (parseMethodDescriptor yX4_resume.desc).map (fun d => d.parameters.length) = some 2 := by decide +kernel
theorem hd_X4_cancel : yX4_cancel.cls = RX4 ∧ yX4_cancel.cls ≠ "java/lang/invoke/MethodHandle" ∧ yX4_cancel.cls ≠ "java/lang/invoke/VarHandle" ∧ (parseMethodDescriptor yX4_cancel.desc).map (fun d => d.parameters.length) = some 2 := by decide +kernel
theorem hd_X4_hangUp : yX4_hangUp.cls = RX4 ∧ yX4_hangUp.cls ≠ "java/lang/invoke/MethodHandle" ∧ yX4_hangUp.cls ≠ "java/lang/invoke/VarHandle" ∧ (parseMethodDescriptor yX4_hangUp.desc).map (fun d => d.parameters.length) = some 1 := by decide +kernel
theorem hd_X4_callOf : yX4_callOf.cls = RX4 ∧ yX4_callOf.cls ≠ "java/lang/invoke/MethodHandle" ∧ yX4_callOf.cls ≠ "java/lang/invoke/VarHandle" ∧ (parseMethodDescriptor yX4_callOf.desc).map (fun d => d.parameters.length) = some 1 := by decide +kernel
theorem hd_X4_way : yX4_way.cls = RX4 ∧ yX4_way.cls ≠ "java/lang/invoke/MethodHandle" ∧ yX4_way.cls ≠ "java/lang/invoke/VarHandle" ∧ (parseMethodDescriptor yX4_way.desc).map (fun d => d.parameters.length) = some 1 := by decide +kernel
theorem hd_X4_cut : yX4_cut.cls = RX4 ∧ yX4_cut.cls ≠ "java/lang/invoke/MethodHandle" ∧ yX4_cut.cls ≠ "java/lang/invoke/VarHandle" ∧ (parseMethodDescriptor yX4_cut.desc).map (fun d => d.parameters.length) = some 3 := by decide +kernel
theorem hd_X4_mend : yX4_mend.cls = RX4 ∧ yX4_mend.cls ≠ "java/lang/invoke/MethodHandle" ∧ yX4_mend.cls ≠ "java/lang/invoke/VarHandle" ∧ (parseMethodDescriptor yX4_mend.desc).map (fun d => d.parameters.length) = some 3 := by decide +kernel
theorem hd_X4_trunk : yX4_trunk.cls = RX4 ∧ yX4_trunk.cls ≠ "java/lang/invoke/MethodHandle" ∧ yX4_trunk.cls ≠ "java/lang/invoke/VarHandle" ∧ (parseMethodDescriptor yX4_trunk.desc).map (fun d => d.parameters.length) = some 3 := by decide +kernel
theorem hd_X4_setLines : yX4_setLines.cls = RX4 ∧ yX4_setLines.cls ≠ "java/lang/invoke/MethodHandle" ∧ yX4_setLines.cls ≠ "java/lang/invoke/VarHandle" ∧ (parseMethodDescriptor yX4_setLines.desc).map (fun d => d.parameters.length) = some 2 := by decide +kernel
theorem hd_X4_pass : yX4_pass.cls = RX4 ∧ yX4_pass.cls ≠ "java/lang/invoke/MethodHandle" ∧ yX4_pass.cls ≠ "java/lang/invoke/VarHandle" ∧ (parseMethodDescriptor yX4_pass.desc).map (fun d => d.parameters.length) = some 1 := by decide +kernel
theorem hd_X4_state : yX4_state.cls = RX4 ∧ yX4_state.cls ≠ "java/lang/invoke/MethodHandle" ∧ yX4_state.cls ≠ "java/lang/invoke/VarHandle" ∧ (parseMethodDescriptor yX4_state.desc).map (fun d => d.parameters.length) = some 1 := by decide +kernel
theorem hd_X4_wagons : yX4_wagons.cls = RX4 ∧ yX4_wagons.cls ≠ "java/lang/invoke/MethodHandle" ∧ yX4_wagons.cls ≠ "java/lang/invoke/VarHandle" ∧ (parseMethodDescriptor yX4_wagons.desc).map (fun d => d.parameters.length) = some 1 := by decide +kernel
theorem hd_X4_wagonOf : yX4_wagonOf.cls = RX4 ∧ yX4_wagonOf.cls ≠ "java/lang/invoke/MethodHandle" ∧ yX4_wagonOf.cls ≠ "java/lang/invoke/VarHandle" ∧ (parseMethodDescriptor yX4_wagonOf.desc).map (fun d => d.parameters.length) = some 2 := by decide +kernel
theorem hd_X4_lapses : yX4_lapses.cls = RX4 ∧ yX4_lapses.cls ≠ "java/lang/invoke/MethodHandle" ∧ yX4_lapses.cls ≠ "java/lang/invoke/VarHandle" ∧ (parseMethodDescriptor yX4_lapses.desc).map (fun d => d.parameters.length) = some 1 := by decide +kernel
theorem hd_X4_depart : yX4_depart.cls = RX4 ∧ yX4_depart.cls ≠ "java/lang/invoke/MethodHandle" ∧ yX4_depart.cls ≠ "java/lang/invoke/VarHandle" ∧ (parseMethodDescriptor yX4_depart.desc).map (fun d => d.parameters.length) = some 3 := by decide +kernel
theorem hd_X4_arrive : yX4_arrive.cls = RX4 ∧ yX4_arrive.cls ≠ "java/lang/invoke/MethodHandle" ∧ yX4_arrive.cls ≠ "java/lang/invoke/VarHandle" ∧ (parseMethodDescriptor yX4_arrive.desc).map (fun d => d.parameters.length) = some 2 := by decide +kernel
