/-! THE CLAIM OUT OF ONE WALK OF THE LAW'S BODY. Your part is whole_start (and what it stands on); all else here is the same for every law, but numbers. -/
def R_law : String := "TrunkYardsLaw"
def lw_P (b : Addr) (xs : List Int32) (args : Array Value) (s : State) : Prop := args = #[.ref b] ∧ s.IntsAt b xs ∧ xs.length ≤ 2560 ∧ (Jvm.Cond.and given_1 narrow_1).before args s = true
def lw_Q (_ : Array Value) (s : State) (o : Outcome) (t : State) : Prop := o = .returned (some (.int 1)) ∧ Framed s o t [] 1114 14884
def lw_Z (below : List Frame) (a : Array Value) (s : State) : State → Prop := fun t => ∃ o, t.status = .running ∧ Ended t below o ∧ lw_Q a s o t
/-- the law's own end, with 1 on the stack, nothing written that was there before, its room as the claim has it -/
theorem lw_ret {p : Program} {l : Launch} {e : Env} {s : State} {m : MethodId} {below : List Frame} {meth : Method} {c : Code} {b : Nat} (hx : p.tables.exec = Jvm.exec) (hb : c.code = code) (hr : meth.sig.returnType = ret) (hlocks : meth.locks = false) {pc : Nat} {H : Heap} {ls : Array Slot} (hdg : decode code pc = .ok (.ireturn, 1)) : W p l e room_1 s m #[Value.ref b] below meth c H [] 1114 14884 (lw_Z below #[Value.ref b] s) (F0 m pc ls [.int 1]) := by
  intro T hT X
  obtain ⟨fs, hret, hrun, hended, hW, hframe⟩ := X.leave (v := some (.int 1)) (hlocks := hlocks) (fun h => by rw [hr] at h; cases h)
  have hmeth' : T.vm.method? m = some meth := X.method'
  refine ⟨T.setFrames fs, ?_, .returned (some (.int 1)), hrun, hended, rfl, ⟨_, rfl⟩, hW, hframe⟩
  jvm_step X.here [X.here.top, hx, hb, hdg, hmeth', hr, ret, narrow_b1]
  (try refine ⟨rfl, ?_⟩); (try refine ⟨rfl, ?_⟩)
  first | (intro acts; rw [hret _ acts rfl rfl rfl]) | rw [hret _ _ rfl rfl rfl]
  exact Steps.refl _
/-- what holds at the law's entry: the machine, the code, the tables' words (any of lw_tbl by 'hts w (by decide +kernel)'), the script of L ints xs at the cell b, what the Statement gives of the start (any of its parts by flat_of_before) -/
def lw_At (p : Program) (s : State) (m : MethodId) (meth : Method) (c : Code) (b L : Nat) (xs : Nat → Int32) : Prop :=
  p.tables.exec = Jvm.exec ∧ c.code = code ∧ meth.sig.returnType = ret ∧ c.maxLocals = 7 ∧ s.vm.findClass R_law = some m.cls ∧ (∀ w ∈ lw_tbl, w.before #[Value.ref b] s = true) ∧ va_X b L xs s s.heap ∧ b < s.heap.size ∧ meth.locks = false ∧ (Jvm.Cond.and given_1 narrow_1).before #[Value.ref b] s = true
/-! ===== the law's calls ===== -/
section GZ
variable {p : Program} {l : Launch} {e : Env} {R : Room} {s : State} {m : MethodId} {args : Array Value} {below : List Frame} {meth : Method} {c : Code} {H : Heap} {locs : List Loc} {Q : State → Prop} {cells slots : Nat}
variable {y : MethodName} {bytes cc : ByteArray} {maxL nL n index : Nat} {ret : Option FieldType} {ws : List Cond} {rm : Room} {Ts : List Cond} {own C : String} {b : Addr} {As rest st0 : List Value} {pc : Nat} {ls : Array Slot} {D : va_G} {w : tyS → va_W} {tys : List (ClassId × FieldType)} {A : Nat → Prop} {σ τ : tyS} {r : Int32} {wr : va_W}
theorem gz_Mi (S : CallFix p m c cc nL s args Ts own) (hM : gMi l y ws rm D w tys (.ref b :: As) H.size σ r τ) (cw : CallW R s args own C index y bytes maxL ret ws rm 0 0 n)
    (hK : va_K D vwCl tys s) (hP : va_P D vwCl (w σ ++ wr) H) (hD : va_D A (w σ ++ wr)) (hS : va_S A s.heap H locs) (hA : ∀ q, s.heap.size ≤ q → A q) (hNN : gNN s) {ci q0 : Nat} {T : u_T} {N : Nat} {fs : List Value} (hc : vwCl[ci]? = some (C, T, N)) (he : (w σ)[q0]? = some (b, .inr (ci, fs)))
    (hn : As.length = n) (hsize : ls.size = nL) (hst : st0 = As.reverse ++ .ref b :: rest) (hW : (rest.map fun v => v.category).sum ≤ 8) (hdg : decode cc pc = .ok (.invokevirtual index, 3)) (hf : cells ≤ R.cells ∧ slots ≤ R.slots)
    (kk : ∀ (H1 : Heap) (locs1 : List Loc), va_P D vwCl (w τ ++ wr) H1 → va_D A (w τ ++ wr) → va_S A s.heap H1 locs1 → W p l e R s m args below meth c H1 locs1 cells slots Q (F0 m (pc + 3) ls (.int r :: rest))) : W p l e R s m args below meth c H locs cells slots Q (F0 m pc ls st0) := by
  subst hst
  have hF := gFree hD.lf hS hA
  refine va_calli (va_runV (As := As) (rest := rest) S hM cw ⟨gPre_blind, va_recv hK hP.lf hc he, fun U hU hWm => ⟨rfl, by rw [hU], by rw [hU]; exact hP.lf, va_K.moved hWm.alike hK, hD.lf.weaken (fun _ _ _ _ => trivial), hNN.warm hWm⟩⟩ rfl hn hsize rfl (lv_room hW) hdg hf) hS (fun q _ h => hF q h) hF (fun r1 u t H1 locs1 ht hvm hw hB hz1 hk1 hS1 => ?_)
  obtain ⟨rfl, rfl⟩ := hw
  obtain ⟨hP1, hK1, hD1⟩ := hB
  rw [ht] at hP1
  obtain ⟨hP2, hD2⟩ := gl_join hP hD hk1 hF hP1 hD1
  exact kk H1 locs1 hP2 hD2 hS1
theorem gz_Mv (S : CallFix p m c cc nL s args Ts own) (hM : gMv l y ws rm D w tys (.ref b :: As) H.size σ τ) (cw : CallW R s args own C index y bytes maxL ret ws rm 0 0 n)
    (hK : va_K D vwCl tys s) (hP : va_P D vwCl (w σ ++ wr) H) (hD : va_D A (w σ ++ wr)) (hS : va_S A s.heap H locs) (hA : ∀ q, s.heap.size ≤ q → A q) (hNN : gNN s) {ci q0 : Nat} {T : u_T} {N : Nat} {fs : List Value} (hc : vwCl[ci]? = some (C, T, N)) (he : (w σ)[q0]? = some (b, .inr (ci, fs)))
    (hn : As.length = n) (hsize : ls.size = nL) (hst : st0 = As.reverse ++ .ref b :: rest) (hW : (rest.map fun v => v.category).sum ≤ 8) (hdg : decode cc pc = .ok (.invokevirtual index, 3)) (hf : cells ≤ R.cells ∧ slots ≤ R.slots)
    (kk : ∀ (H1 : Heap) (locs1 : List Loc), va_P D vwCl (w τ ++ wr) H1 → va_D A (w τ ++ wr) → va_S A s.heap H1 locs1 → W p l e R s m args below meth c H1 locs1 cells slots Q (F0 m (pc + 3) ls rest)) : W p l e R s m args below meth c H locs cells slots Q (F0 m pc ls st0) := by
  subst hst
  have hF := gFree hD.lf hS hA
  refine va_callv (va_runV (As := As) (rest := rest) S hM cw ⟨gPre_blind, va_recv hK hP.lf hc he, fun U hU hWm => ⟨rfl, by rw [hU], by rw [hU]; exact hP.lf, va_K.moved hWm.alike hK, hD.lf.weaken (fun _ _ _ _ => trivial), hNN.warm hWm⟩⟩ rfl hn hsize rfl (lv_room hW) hdg hf) hS (fun q _ h => hF q h) hF (fun u t H1 locs1 ht hvm hw hB hz1 hk1 hS1 => ?_)
  subst hw
  obtain ⟨hP1, hK1, hD1⟩ := hB
  rw [ht] at hP1
  obtain ⟨hP2, hD2⟩ := gl_join hP hD hk1 hF hP1 hD1
  exact kk H1 locs1 hP2 hD2 hS1
theorem gz_H {ad : Nat → Nat} {cA : Nat → ClassId} {o : Nat} {cO : ClassId} {g : Nat → Int64} {kk : Nat} {v : Int64} {hh : List (Nat × Nat × Nat × Nat)} (S : CallFix p m c cc nL s args Ts own) (hM : hMet l y ws rm D ad cA o cO As H.size σ g kk v τ) (cw : vx_CSW R s args own index y bytes maxL ret hh ws rm 1 6 n)
    (hK : va_K D vwCl (tH cA cO) s) (hP : va_P D vwCl (wH ad cA o cO σ g ++ wr) H) (hD : va_D A (wH ad cA o cO σ g ++ wr)) (hS : va_S A s.heap H locs) (hA : ∀ q, s.heap.size ≤ q → A q) (hNN : gNN s) (hOK : gOK gStr A s s.heap) (hNC : gNC s) (hCL : gCL s)
    (hn : As.length = n) (hsize : ls.size = nL) (hst : st0 = As.reverse ++ rest) (hW : (rest.map fun v => v.category).sum ≤ 8) (hdg : decode cc pc = .ok (.invokestatic index, 3)) (hf : cells + 1 ≤ R.cells ∧ slots + 6 ≤ R.slots)
    (k9 : ∀ (g' : Nat → Int64) (H1 : Heap) (locs1 : List Loc), (kk = 0 → g' 0 = v) → va_P D vwCl (wH ad cA o cO τ g' ++ wr) H1 → va_D A (wH ad cA o cO τ g' ++ wr) → va_S A s.heap H1 locs1 → W p l e R s m args below meth c H1 locs1 (cells + 1) (slots + 6) Q (F0 m (pc + 3) ls (.int (nI kk) :: rest))) : W p l e R s m args below meth c H locs cells slots Q (F0 m pc ls st0) := by
  subst hst
  have hF := gFree hD.lf hS hA
  refine va_calli (vx_runSW (As := As) (rest := rest) S hM cw ⟨hPre_blind, fun U hU hWm => ⟨rfl, by rw [hU], by rw [hU]; exact hP.lf, va_K.moved hWm.alike hK, hD.lf.weaken (fun _ _ _ _ => trivial), hNN.warm hWm, hOK.go hS hU hWm hF, gNC.moved hWm.alike hNC, gCL.warm hWm hCL⟩⟩ rfl hn hsize rfl (lv_room hW) hdg hf) hS (fun q _ h => hF q h) hF (fun r1 u t H1 locs1 ht hvm hw hB hz1 hk1 hS1 => ?_)
  obtain ⟨rfl, h2, h3⟩ := hw
  obtain ⟨u1, u2⟩ := u
  dsimp only at h2 h3
  subst h2
  obtain ⟨hP1, hK1, hD1⟩ := hB
  rw [ht] at hP1
  obtain ⟨hP2, hD2⟩ := gl_join hP hD hk1 hF hP1 hD1
  exact k9 u2 H1 locs1 h3 hP2 hD2 hS1
theorem gz_Hv {ad : Nat → Nat} {cA : Nat → ClassId} {o : Nat} {cO : ClassId} {g : Nat → Int64} {kk : Nat} {hh : List (Nat × Nat × Nat × Nat)} (S : CallFix p m c cc nL s args Ts own) (hM : hMetv l y ws rm D ad cA o cO As H.size σ g kk τ) (cw : vx_CSW R s args own index y bytes maxL ret hh ws rm 1 6 n)
    (hK : va_K D vwCl (tH cA cO) s) (hP : va_P D vwCl (wH ad cA o cO σ g ++ wr) H) (hD : va_D A (wH ad cA o cO σ g ++ wr)) (hS : va_S A s.heap H locs) (hA : ∀ q, s.heap.size ≤ q → A q) (hNN : gNN s) (hOK : gOK gStr A s s.heap) (hNC : gNC s) (hCL : gCL s)
    (hn : As.length = n) (hsize : ls.size = nL) (hst : st0 = As.reverse ++ rest) (hW : (rest.map fun v => v.category).sum ≤ 8) (hdg : decode cc pc = .ok (.invokestatic index, 3)) (hf : cells + 1 ≤ R.cells ∧ slots + 6 ≤ R.slots)
    (k9 : ∀ (g' : Nat → Int64) (H1 : Heap) (locs1 : List Loc), va_P D vwCl (wH ad cA o cO τ g' ++ wr) H1 → va_D A (wH ad cA o cO τ g' ++ wr) → va_S A s.heap H1 locs1 → W p l e R s m args below meth c H1 locs1 (cells + 1) (slots + 6) Q (F0 m (pc + 3) ls (.int (nI kk) :: rest))) : W p l e R s m args below meth c H locs cells slots Q (F0 m pc ls st0) := by
  subst hst
  have hF := gFree hD.lf hS hA
  refine va_calli (vx_runSW (As := As) (rest := rest) S hM cw ⟨hPre_blind, fun U hU hWm => ⟨rfl, by rw [hU], by rw [hU]; exact hP.lf, va_K.moved hWm.alike hK, hD.lf.weaken (fun _ _ _ _ => trivial), hNN.warm hWm, hOK.go hS hU hWm hF, gNC.moved hWm.alike hNC, gCL.warm hWm hCL⟩⟩ rfl hn hsize rfl (lv_room hW) hdg hf) hS (fun q _ h => hF q h) hF (fun r1 u t H1 locs1 ht hvm hw hB hz1 hk1 hS1 => ?_)
  obtain ⟨rfl, h2, h3⟩ := hw
  obtain ⟨u1, u2⟩ := u
  dsimp only at h2 h3
  subst h2
  obtain ⟨hP1, hK1, hD1⟩ := hB
  rw [ht] at hP1
  obtain ⟨hP2, hD2⟩ := gl_join hP hD hk1 hF hP1 hD1
  exact k9 u2 H1 locs1 hP2 hD2 hS1
/-- script[i + j] goes on the stack -/
theorem gz_arg {L i j : Nat} {jz : Int} {xs : Nat → Int32} (hx : p.tables.exec = Jvm.exec) (hb : c.code = cc) (hX : va_X b L xs s s.heap) (hbl : b < s.heap.size) (hbA : ¬ A b) (hS : va_S A s.heap H locs) (hij : i + j < L) (hL : L ≤ 2560) (hj : Int32.ofInt jz = nI j)
    (d0 : decode cc pc = .ok (.aload_n 0, 1)) (d1 : decode cc (pc + 1) = .ok (.iload 4, 2)) (d3 : decode cc (pc + 3) = .ok (.iconst jz, 1)) (d4 : decode cc (pc + 4) = .ok (.iadd, 1)) (d5 : decode cc (pc + 5) = .ok (.iaload, 1))
    (h0 : ls[0]? = some (.val (.ref b))) (h4 : ls[4]? = some (.val (.int (nI i)))) (kk : W p l e R s m args below meth c H locs cells slots Q (F0 m (pc + 6) ls (.int (xs (i + j)) :: rest))) : W p l e R s m args below meth c H locs cells slots Q (F0 m pc ls rest) := by
  refine lv_aload_n hx hb d0 rfl h0 ?_
  refine lv_iload hx hb d1 h4 ?_
  refine lv_iconst (v := nI j) hx hb d3 hj ?_
  refine lv_iadd hx hb d4 ?_
  rw [nI_add]
  refine va_sld hx hb hX hbl hbA hS (vp_in_nI hij (by omega)) d5 ?_
  rw [nI_clamp (by omega)]
  exact kk
end GZ
theorem law_cmp {L i : Nat} (hL : L ≤ 2560) (hi : i ≤ 2560) : nI L - 5 < nI i ↔ L < i + 5 := by
  have e5 : (5 : Int32) = nI 5 := rfl
  rw [Int32.lt_iff_toInt_lt, e5, pk_sub_toInt (by omega) (by omega), nI_toInt (by omega)]
  omega
theorem kOf_lt {codes : List Nat} {c kk : Nat} (h : kOf codes c = some kk) (hc : codes.length ≤ 3) : kk < 4 := by
  unfold kOf at h
  by_cases h0 : c = 0
  · rw [if_pos h0] at h; cases h; decide
  · rw [if_neg h0] at h
    cases h1 : codes.idxOf? c with
    | none => rw [h1] at h; cases h
    | some i =>
      rw [h1] at h
      cases h
      have := List.findIdx?_eq_some_iff_findIdx_eq.mp h1
      show i + 1 < 4
      omega
theorem nI_kk {codes : List Nat} {c kk : Nat} (h : kOf codes c = some kk) (hc : codes.length ≤ 3) (h0 : nI kk = 0) : kk = 0 := by
  have := kOf_lt h hc
  exact (nI_eq (by omega) (by omega)).mp (h0.trans nI_0.symm)
theorem hd_X5_arrive : yX5_arrive.cls = RX5 ∧ yX5_arrive.cls ≠ "java/lang/invoke/MethodHandle" ∧ yX5_arrive.cls ≠ "java/lang/invoke/VarHandle" ∧ (parseMethodDescriptor yX5_arrive.desc).map (fun d => d.parameters.length) = some 2 := by decide +kernel
theorem hd_X5_ask : yX5_ask.cls = RX5 ∧ yX5_ask.cls ≠ "java/lang/invoke/MethodHandle" ∧ yX5_ask.cls ≠ "java/lang/invoke/VarHandle" ∧ (parseMethodDescriptor yX5_ask.desc).map (fun d => d.parameters.length) = some 2 := by decide +kernel
theorem hd_X5_at : yX5_at.cls = RX5 ∧ yX5_at.cls ≠ "java/lang/invoke/MethodHandle" ∧ yX5_at.cls ≠ "java/lang/invoke/VarHandle" ∧ (parseMethodDescriptor yX5_at.desc).map (fun d => d.parameters.length) = some 3 := by decide +kernel
theorem hd_X5_atByReplay : yX5_atByReplay.cls = RX5 ∧ yX5_atByReplay.cls ≠ "java/lang/invoke/MethodHandle" ∧ yX5_atByReplay.cls ≠ "java/lang/invoke/VarHandle" ∧ (parseMethodDescriptor yX5_atByReplay.desc).map (fun d => d.parameters.length) = some 3 := by decide +kernel
theorem hd_X5_bookings : yX5_bookings.cls = RX5 ∧ yX5_bookings.cls ≠ "java/lang/invoke/MethodHandle" ∧ yX5_bookings.cls ≠ "java/lang/invoke/VarHandle" ∧ (parseMethodDescriptor yX5_bookings.desc).map (fun d => d.parameters.length) = some 0 := by decide +kernel
theorem hd_X5_busy : yX5_busy.cls = RX5 ∧ yX5_busy.cls ≠ "java/lang/invoke/MethodHandle" ∧ yX5_busy.cls ≠ "java/lang/invoke/VarHandle" ∧ (parseMethodDescriptor yX5_busy.desc).map (fun d => d.parameters.length) = some 0 := by decide +kernel
theorem hd_X5_call : yX5_call.cls = RX5 ∧ yX5_call.cls ≠ "java/lang/invoke/MethodHandle" ∧ yX5_call.cls ≠ "java/lang/invoke/VarHandle" ∧ (parseMethodDescriptor yX5_call.desc).map (fun d => d.parameters.length) = some 2 := by decide +kernel
theorem hd_X5_callOf : yX5_callOf.cls = RX5 ∧ yX5_callOf.cls ≠ "java/lang/invoke/MethodHandle" ∧ yX5_callOf.cls ≠ "java/lang/invoke/VarHandle" ∧ (parseMethodDescriptor yX5_callOf.desc).map (fun d => d.parameters.length) = some 1 := by decide +kernel
theorem hd_X5_cancel : yX5_cancel.cls = RX5 ∧ yX5_cancel.cls ≠ "java/lang/invoke/MethodHandle" ∧ yX5_cancel.cls ≠ "java/lang/invoke/VarHandle" ∧ (parseMethodDescriptor yX5_cancel.desc).map (fun d => d.parameters.length) = some 2 := by decide +kernel
theorem hd_X5_carried : yX5_carried.cls = RX5 ∧ yX5_carried.cls ≠ "java/lang/invoke/MethodHandle" ∧ yX5_carried.cls ≠ "java/lang/invoke/VarHandle" ∧ (parseMethodDescriptor yX5_carried.desc).map (fun d => d.parameters.length) = some 1 := by decide +kernel
theorem hd_X5_confirm : yX5_confirm.cls = RX5 ∧ yX5_confirm.cls ≠ "java/lang/invoke/MethodHandle" ∧ yX5_confirm.cls ≠ "java/lang/invoke/VarHandle" ∧ (parseMethodDescriptor yX5_confirm.desc).map (fun d => d.parameters.length) = some 1 := by decide +kernel
theorem hd_X5_cut : yX5_cut.cls = RX5 ∧ yX5_cut.cls ≠ "java/lang/invoke/MethodHandle" ∧ yX5_cut.cls ≠ "java/lang/invoke/VarHandle" ∧ (parseMethodDescriptor yX5_cut.desc).map (fun d => d.parameters.length) = some 3 := by decide +kernel
theorem hd_X5_depart : yX5_depart.cls = RX5 ∧ yX5_depart.cls ≠ "java/lang/invoke/MethodHandle" ∧ yX5_depart.cls ≠ "java/lang/invoke/VarHandle" ∧ (parseMethodDescriptor yX5_depart.desc).map (fun d => d.parameters.length) = some 3 := by decide +kernel
theorem hd_X5_follow : yX5_follow.cls = RX5 ∧ yX5_follow.cls ≠ "java/lang/invoke/MethodHandle" ∧ yX5_follow.cls ≠ "java/lang/invoke/VarHandle" ∧ (parseMethodDescriptor yX5_follow.desc).map (fun d => d.parameters.length) = some 2 := by decide +kernel
theorem hd_X5_hangUp : yX5_hangUp.cls = RX5 ∧ yX5_hangUp.cls ≠ "java/lang/invoke/MethodHandle" ∧ yX5_hangUp.cls ≠ "java/lang/invoke/VarHandle" ∧ (parseMethodDescriptor yX5_hangUp.desc).map (fun d => d.parameters.length) = some 1 := by decide +kernel
theorem hd_X5_lapses : yX5_lapses.cls = RX5 ∧ yX5_lapses.cls ≠ "java/lang/invoke/MethodHandle" ∧ yX5_lapses.cls ≠ "java/lang/invoke/VarHandle" ∧ (parseMethodDescriptor yX5_lapses.desc).map (fun d => d.parameters.length) = some 1 := by decide +kernel
theorem hd_X5_mend : yX5_mend.cls = RX5 ∧ yX5_mend.cls ≠ "java/lang/invoke/MethodHandle" ∧ yX5_mend.cls ≠ "java/lang/invoke/VarHandle" ∧ (parseMethodDescriptor yX5_mend.desc).map (fun d => d.parameters.length) = some 3 := by decide +kernel
theorem hd_X5_on : yX5_on.cls = RX5 ∧ yX5_on.cls ≠ "java/lang/invoke/MethodHandle" ∧ yX5_on.cls ≠ "java/lang/invoke/VarHandle" ∧ (parseMethodDescriptor yX5_on.desc).map (fun d => d.parameters.length) = some 2 := by decide +kernel
theorem hd_X5_pass : yX5_pass.cls = RX5 ∧ yX5_pass.cls ≠ "java/lang/invoke/MethodHandle" ∧ yX5_pass.cls ≠ "java/lang/invoke/VarHandle" ∧ (parseMethodDescriptor yX5_pass.desc).map (fun d => d.parameters.length) = some 1 := by decide +kernel
theorem hd_X5_promised : yX5_promised.cls = RX5 ∧ yX5_promised.cls ≠ "java/lang/invoke/MethodHandle" ∧ yX5_promised.cls ≠ "java/lang/invoke/VarHandle" ∧ (parseMethodDescriptor yX5_promised.desc).map (fun d => d.parameters.length) = some 1 := by decide +kernel
theorem hd_X5_resume : yX5_resume.cls = RX5 ∧ yX5_resume.cls ≠ "java/lang/invoke/MethodHandle" ∧ yX5_resume.cls ≠ "java/lang/invoke/VarHandle" ∧ (parseMethodDescriptor yX5_resume.desc).map (fun d => d.parameters.length) = some 2 := by decide +kernel
theorem hd_X5_setLines : yX5_setLines.cls = RX5 ∧ yX5_setLines.cls ≠ "java/lang/invoke/MethodHandle" ∧ yX5_setLines.cls ≠ "java/lang/invoke/VarHandle" ∧ (parseMethodDescriptor yX5_setLines.desc).map (fun d => d.parameters.length) = some 2 := by decide +kernel
theorem hd_X5_shunt : yX5_shunt.cls = RX5 ∧ yX5_shunt.cls ≠ "java/lang/invoke/MethodHandle" ∧ yX5_shunt.cls ≠ "java/lang/invoke/VarHandle" ∧ (parseMethodDescriptor yX5_shunt.desc).map (fun d => d.parameters.length) = some 4 := by decide +kernel
theorem hd_X5_state : yX5_state.cls = RX5 ∧ yX5_state.cls ≠ "java/lang/invoke/MethodHandle" ∧ yX5_state.cls ≠ "java/lang/invoke/VarHandle" ∧ (parseMethodDescriptor yX5_state.desc).map (fun d => d.parameters.length) = some 1 := by decide +kernel
theorem hd_X5_thrown : yX5_thrown.cls = RX5 ∧ yX5_thrown.cls ≠ "java/lang/invoke/MethodHandle" ∧ yX5_thrown.cls ≠ "java/lang/invoke/VarHandle" ∧ (parseMethodDescriptor yX5_thrown.desc).map (fun d => d.parameters.length) = some 0 := by decide +kernel
theorem hd_X5_trains : yX5_trains.cls = RX5 ∧ yX5_trains.cls ≠ "java/lang/invoke/MethodHandle" ∧ yX5_trains.cls ≠ "java/lang/invoke/VarHandle" ∧ (parseMethodDescriptor yX5_trains.desc).map (fun d => d.parameters.length) = some 0 := by decide +kernel
theorem hd_X5_trunk : yX5_trunk.cls = RX5 ∧ yX5_trunk.cls ≠ "java/lang/invoke/MethodHandle" ∧ yX5_trunk.cls ≠ "java/lang/invoke/VarHandle" ∧ (parseMethodDescriptor yX5_trunk.desc).map (fun d => d.parameters.length) = some 3 := by decide +kernel
theorem hd_X5_wagon : yX5_wagon.cls = RX5 ∧ yX5_wagon.cls ≠ "java/lang/invoke/MethodHandle" ∧ yX5_wagon.cls ≠ "java/lang/invoke/VarHandle" ∧ (parseMethodDescriptor yX5_wagon.desc).map (fun d => d.parameters.length) = some 2 := by decide +kernel
theorem hd_X5_wagonOf : yX5_wagonOf.cls = RX5 ∧ yX5_wagonOf.cls ≠ "java/lang/invoke/MethodHandle" ∧ yX5_wagonOf.cls ≠ "java/lang/invoke/VarHandle" ∧ (parseMethodDescriptor yX5_wagonOf.desc).map (fun d => d.parameters.length) = some 2 := by decide +kernel
theorem hd_X5_wagons : yX5_wagons.cls = RX5 ∧ yX5_wagons.cls ≠ "java/lang/invoke/MethodHandle" ∧ yX5_wagons.cls ≠ "java/lang/invoke/VarHandle" ∧ (parseMethodDescriptor yX5_wagons.desc).map (fun d => d.parameters.length) = some 1 := by decide +kernel
theorem hd_X5_wash : yX5_wash.cls = RX5 ∧ yX5_wash.cls ≠ "java/lang/invoke/MethodHandle" ∧ yX5_wash.cls ≠ "java/lang/invoke/VarHandle" ∧ (parseMethodDescriptor yX5_wash.desc).map (fun d => d.parameters.length) = some 1 := by decide +kernel
theorem hd_X5_way : yX5_way.cls = RX5 ∧ yX5_way.cls ≠ "java/lang/invoke/MethodHandle" ∧ yX5_way.cls ≠ "java/lang/invoke/VarHandle" ∧ (parseMethodDescriptor yX5_way.desc).map (fun d => d.parameters.length) = some 1 := by decide +kernel
theorem hd_X5_where : yX5_where.cls = RX5 ∧ yX5_where.cls ≠ "java/lang/invoke/MethodHandle" ∧ yX5_where.cls ≠ "java/lang/invoke/VarHandle" ∧ (parseMethodDescriptor yX5_where.desc).map (fun d => d.parameters.length) = some 1 := by decide +kernel
theorem hd_X4_busy : yX4_busy.cls = RX4 ∧ yX4_busy.cls ≠ "java/lang/invoke/MethodHandle" ∧ yX4_busy.cls ≠ "java/lang/invoke/VarHandle" ∧ (parseMethodDescriptor yX4_busy.desc).map (fun d => d.parameters.length) = some 0 := by decide +kernel
theorem hd_X4_bookings : yX4_bookings.cls = RX4 ∧ yX4_bookings.cls ≠ "java/lang/invoke/MethodHandle" ∧ yX4_bookings.cls ≠ "java/lang/invoke/VarHandle" ∧ (parseMethodDescriptor yX4_bookings.desc).map (fun d => d.parameters.length) = some 0 := by decide +kernel
theorem hd_X4_trains : yX4_trains.cls = RX4 ∧ yX4_trains.cls ≠ "java/lang/invoke/MethodHandle" ∧ yX4_trains.cls ≠ "java/lang/invoke/VarHandle" ∧ (parseMethodDescriptor yX4_trains.desc).map (fun d => d.parameters.length) = some 0 := by decide +kernel
theorem hd_L_arrive : yL_arrive.cls ≠ "java/lang/invoke/MethodHandle" ∧ yL_arrive.cls ≠ "java/lang/invoke/VarHandle" ∧ (parseMethodDescriptor yL_arrive.desc).map (fun d => d.parameters.length) = some 4 := by decide +kernel
theorem hd_L_ask : yL_ask.cls ≠ "java/lang/invoke/MethodHandle" ∧ yL_ask.cls ≠ "java/lang/invoke/VarHandle" ∧ (parseMethodDescriptor yL_ask.desc).map (fun d => d.parameters.length) = some 4 := by decide +kernel
theorem hd_L_at : yL_at.cls ≠ "java/lang/invoke/MethodHandle" ∧ yL_at.cls ≠ "java/lang/invoke/VarHandle" ∧ (parseMethodDescriptor yL_at.desc).map (fun d => d.parameters.length) = some 5 := by decide +kernel
theorem hd_L_atByReplay : yL_atByReplay.cls ≠ "java/lang/invoke/MethodHandle" ∧ yL_atByReplay.cls ≠ "java/lang/invoke/VarHandle" ∧ (parseMethodDescriptor yL_atByReplay.desc).map (fun d => d.parameters.length) = some 5 := by decide +kernel
theorem hd_L_call : yL_call.cls ≠ "java/lang/invoke/MethodHandle" ∧ yL_call.cls ≠ "java/lang/invoke/VarHandle" ∧ (parseMethodDescriptor yL_call.desc).map (fun d => d.parameters.length) = some 4 := by decide +kernel
theorem hd_L_callOf : yL_callOf.cls ≠ "java/lang/invoke/MethodHandle" ∧ yL_callOf.cls ≠ "java/lang/invoke/VarHandle" ∧ (parseMethodDescriptor yL_callOf.desc).map (fun d => d.parameters.length) = some 3 := by decide +kernel
theorem hd_L_cancel : yL_cancel.cls ≠ "java/lang/invoke/MethodHandle" ∧ yL_cancel.cls ≠ "java/lang/invoke/VarHandle" ∧ (parseMethodDescriptor yL_cancel.desc).map (fun d => d.parameters.length) = some 4 := by decide +kernel
theorem hd_L_carried : yL_carried.cls ≠ "java/lang/invoke/MethodHandle" ∧ yL_carried.cls ≠ "java/lang/invoke/VarHandle" ∧ (parseMethodDescriptor yL_carried.desc).map (fun d => d.parameters.length) = some 3 := by decide +kernel
theorem hd_L_confirm : yL_confirm.cls ≠ "java/lang/invoke/MethodHandle" ∧ yL_confirm.cls ≠ "java/lang/invoke/VarHandle" ∧ (parseMethodDescriptor yL_confirm.desc).map (fun d => d.parameters.length) = some 3 := by decide +kernel
theorem hd_L_cut : yL_cut.cls ≠ "java/lang/invoke/MethodHandle" ∧ yL_cut.cls ≠ "java/lang/invoke/VarHandle" ∧ (parseMethodDescriptor yL_cut.desc).map (fun d => d.parameters.length) = some 5 := by decide +kernel
theorem hd_L_depart : yL_depart.cls ≠ "java/lang/invoke/MethodHandle" ∧ yL_depart.cls ≠ "java/lang/invoke/VarHandle" ∧ (parseMethodDescriptor yL_depart.desc).map (fun d => d.parameters.length) = some 5 := by decide +kernel
theorem hd_L_follow : yL_follow.cls ≠ "java/lang/invoke/MethodHandle" ∧ yL_follow.cls ≠ "java/lang/invoke/VarHandle" ∧ (parseMethodDescriptor yL_follow.desc).map (fun d => d.parameters.length) = some 4 := by decide +kernel
theorem hd_L_hangUp : yL_hangUp.cls ≠ "java/lang/invoke/MethodHandle" ∧ yL_hangUp.cls ≠ "java/lang/invoke/VarHandle" ∧ (parseMethodDescriptor yL_hangUp.desc).map (fun d => d.parameters.length) = some 3 := by decide +kernel
theorem hd_L_lapses : yL_lapses.cls ≠ "java/lang/invoke/MethodHandle" ∧ yL_lapses.cls ≠ "java/lang/invoke/VarHandle" ∧ (parseMethodDescriptor yL_lapses.desc).map (fun d => d.parameters.length) = some 3 := by decide +kernel
theorem hd_L_mend : yL_mend.cls ≠ "java/lang/invoke/MethodHandle" ∧ yL_mend.cls ≠ "java/lang/invoke/VarHandle" ∧ (parseMethodDescriptor yL_mend.desc).map (fun d => d.parameters.length) = some 4 := by decide +kernel
theorem hd_L_on : yL_on.cls ≠ "java/lang/invoke/MethodHandle" ∧ yL_on.cls ≠ "java/lang/invoke/VarHandle" ∧ (parseMethodDescriptor yL_on.desc).map (fun d => d.parameters.length) = some 4 := by decide +kernel
theorem hd_L_pass : yL_pass.cls ≠ "java/lang/invoke/MethodHandle" ∧ yL_pass.cls ≠ "java/lang/invoke/VarHandle" ∧ (parseMethodDescriptor yL_pass.desc).map (fun d => d.parameters.length) = some 3 := by decide +kernel
theorem hd_L_promised : yL_promised.cls ≠ "java/lang/invoke/MethodHandle" ∧ yL_promised.cls ≠ "java/lang/invoke/VarHandle" ∧ (parseMethodDescriptor yL_promised.desc).map (fun d => d.parameters.length) = some 3 := by decide +kernel
theorem hd_L_resume : yL_resume.cls ≠ "java/lang/invoke/MethodHandle" ∧ yL_resume.cls ≠ "java/lang/invoke/VarHandle" ∧ (parseMethodDescriptor yL_resume.desc).map (fun d => d.parameters.length) = some 4 := by decide +kernel
theorem hd_L_setLines : yL_setLines.cls ≠ "java/lang/invoke/MethodHandle" ∧ yL_setLines.cls ≠ "java/lang/invoke/VarHandle" ∧ (parseMethodDescriptor yL_setLines.desc).map (fun d => d.parameters.length) = some 4 := by decide +kernel
theorem hd_L_shunt : yL_shunt.cls ≠ "java/lang/invoke/MethodHandle" ∧ yL_shunt.cls ≠ "java/lang/invoke/VarHandle" ∧ (parseMethodDescriptor yL_shunt.desc).map (fun d => d.parameters.length) = some 6 := by decide +kernel
theorem hd_L_state : yL_state.cls ≠ "java/lang/invoke/MethodHandle" ∧ yL_state.cls ≠ "java/lang/invoke/VarHandle" ∧ (parseMethodDescriptor yL_state.desc).map (fun d => d.parameters.length) = some 3 := by decide +kernel
theorem hd_L_trunk : yL_trunk.cls ≠ "java/lang/invoke/MethodHandle" ∧ yL_trunk.cls ≠ "java/lang/invoke/VarHandle" ∧ (parseMethodDescriptor yL_trunk.desc).map (fun d => d.parameters.length) = some 5 := by decide +kernel
theorem hd_L_wagon : yL_wagon.cls ≠ "java/lang/invoke/MethodHandle" ∧ yL_wagon.cls ≠ "java/lang/invoke/VarHandle" ∧ (parseMethodDescriptor yL_wagon.desc).map (fun d => d.parameters.length) = some 4 := by decide +kernel
theorem hd_L_wagonOf : yL_wagonOf.cls ≠ "java/lang/invoke/MethodHandle" ∧ yL_wagonOf.cls ≠ "java/lang/invoke/VarHandle" ∧ (parseMethodDescriptor yL_wagonOf.desc).map (fun d => d.parameters.length) = some 4 := by decide +kernel
theorem hd_L_wagons : yL_wagons.cls ≠ "java/lang/invoke/MethodHandle" ∧ yL_wagons.cls ≠ "java/lang/invoke/VarHandle" ∧ (parseMethodDescriptor yL_wagons.desc).map (fun d => d.parameters.length) = some 3 := by decide +kernel
theorem hd_L_wash : yL_wash.cls ≠ "java/lang/invoke/MethodHandle" ∧ yL_wash.cls ≠ "java/lang/invoke/VarHandle" ∧ (parseMethodDescriptor yL_wash.desc).map (fun d => d.parameters.length) = some 3 := by decide +kernel
theorem hd_L_way : yL_way.cls ≠ "java/lang/invoke/MethodHandle" ∧ yL_way.cls ≠ "java/lang/invoke/VarHandle" ∧ (parseMethodDescriptor yL_way.desc).map (fun d => d.parameters.length) = some 3 := by decide +kernel
theorem hd_L_where : yL_where.cls ≠ "java/lang/invoke/MethodHandle" ∧ yL_where.cls ≠ "java/lang/invoke/VarHandle" ∧ (parseMethodDescriptor yL_where.desc).map (fun d => d.parameters.length) = some 3 := by decide +kernel
