set_option maxHeartbeats 4000000 in
set_option maxRecDepth 100000 in
theorem tyh_cancel (l : Launch) (hl9 : l.stackTraces = false) (D : va_G) (ad : Nat → Nat) (cA : Nat → ClassId) (o : Nat) (cO : ClassId) (sz : Nat) (σ : tyS) (g : Nat → Int64) (p1 : Int32) (p2 : Int32) (res : tyX) (kk : Nat) (hF : tyf_T_cancel σ p1 p2 = some res) (hk : kOf [3, 2] res.1 = some kk) : hMet l yL_cancel wsL_cancel ({ frames := 8, cells := 1, slots := 6, locals := 125 } : Room) D ad cA o cO [.ref (ad 0), .int p1, .int p2, .ref o] sz σ g kk res.2.1.toInt64 res.2.2 := by
  refine ty_ofWH (cc := cL_cancel) (maxL := 5) (ret := (some .int)) (hh := [(0, 10, 13, 36), (0, 10, 17, 15)]) (by decide) rfl ?_
  intro p e s m args below meth c s₁ B hml hv
  obtain ⟨rfl, hsz, hP, hK, hD0, hNN, hOK, hNC, hCL⟩ := hv
  have hx := B.exec
  have hb := B.bytes
  have hr := B.returns
  have hts := atoms_spec (ws := wsL_cancel) B.pre
  have hown : s.vm.findClass RL = some m.cls := findClass_of_methodNamed B.named
  have hlocks := B.notSynchronized
  have htab : c.exceptionTable.toList = tableOf [(0, 10, 13, 36), (0, 10, 17, 15)] := vx_table (x := yL_cancel) B (hts _ List.mem_cons_self)
  subst hsz
  have hD := hD0.self (sz := s.heap.size)
  generalize hAe : va_A (wH ad cA o cO σ g) s.heap.size = A at hD hOK ⊢
  have hA : ∀ q : Nat, s.heap.size ≤ q → A q := fun q h => by rw [← hAe]; exact Or.inr h
  clear hAe hD0
  have hS : va_S A s.heap s.heap [] := va_S.rf
  have hl := lv_entry ([.ref (ad 0), .int p1, .int p2, .ref o]) (n := 5) (Nat.le_of_ble_eq_true rfl)
  rw [lg_entry_eq]
  generalize (lg_sl ([.ref (ad 0), .int p1, .int p2, .ref o]) ++ List.replicate (5 - (lg_sl ([.ref (ad 0), .int p1, .int p2, .ref o])).length) Slot.unset).toArray = ls at hl ⊢
  have hl : lv_has ls 5 [(0, .ref (ad 0)), (1, .int p1), (2, .int p2), (3, .ref o)] := hl
  have hS9 : CallFix p m c cL_cancel 5 s _ wsL_cancel RL := ⟨hx, hb, hml, hown, hts⟩
  refine lv_aload_n hx hb dL_cancel_0 rfl (lv_at hl 3 rfl) ?_
  refine lv_iconst (v := 0) hx hb dL_cancel_1 (by decide) ?_
  refine lv_aload_n hx hb dL_cancel_2 rfl (lv_at hl 0 rfl) ?_
  refine lv_iload_n hx hb dL_cancel_3 rfl (lv_at hl 1 rfl) ?_
  refine lv_iload_n hx hb dL_cancel_4 rfl (lv_at hl 2 rfl) ?_
  have hPC : va_P D vwCl (wC ad cA σ) s.heap := hP.lf
  have hDC : va_D A (wC ad cA σ) := hD.lf
  have hF9 := gFree hDC hS hA
  have hrun := gx_runV (p := p) (e := e) (below := below) (meth := meth) (H := s.heap) (locs := []) (R := (headSpec wsL_cancel ({ frames := 8, cells := 1, slots := 6, locals := 125 } : Room)).room) (A := A) (st0 := [.int p2, .int p1, .ref (ad 0), .int 0, .ref o]) (As := [.int p1, .int p2]) (rest := [.int 0, .ref o]) (Qc := gQXi D (wC ad cA) (tC cA) _ res) hS9 (tyc_T_cancel l D ad cA _ σ p1 p2 _ hl9 hF) (cwV 2 hts gL_cancel_X4_cancel rfl rfl rfl hd_X4_cancel ⟨by decide, by decide⟩) hOK (tH_C cA cO hK) hPC hDC hS hA hNN (ci := 4) (q0 := 0) (N := 12) rfl (wC_0 ad cA σ) rfl hl.1 rfl (Nat.le_of_ble_eq_true rfl) dL_cancel_5 ⟨by decide, by decide⟩
  refine gl_runi (rest2 := .ref (ad 0) :: [.int p1, .int p2]) hrun hDC hS hA (fun E ce q9 τ H locs hres hP1 hD1 hfr hS hce hcv hcl => ?_) (fun r τ H locs hres hP1 hD1 hfr hS => ?_)
  · obtain ⟨k, rfl, rfl⟩ := hres
    obtain ⟨hP, hD⟩ := gl_join hP hD hfr hF9 hP1 hD1
    have hP : va_P D vwCl (wH ad cA o cO τ g) H := hP
    have hD : va_D A (wH ad cA o cO τ g) := hD
    have hc : (k = 2 ∧ kk = 1) ∨ (k = 1 ∧ kk = 2) := by
      rcases k with _ | _ | _ | k
      · revert hk; simp [kOf, List.idxOf?, List.findIdx?, List.findIdx?.go]; try omega
      · revert hk; simp [kOf, List.idxOf?, List.findIdx?, List.findIdx?.go]; try omega
      · revert hk; simp [kOf, List.idxOf?, List.findIdx?, List.findIdx?.go]; try omega
      · exfalso; revert hk; simp [kOf, List.idxOf?, List.findIdx?, List.findIdx?.go]
    rcases hc with ⟨rfl, rfl⟩ | ⟨rfl, rfl⟩
    · refine vx_catch (own := RL) (name := exn 3) hown (tableOf []) (⟨0, 10, 13, 36⟩ : ExceptionTableEntry) (tableOf [(0, 10, 17, 15)]) (by rw [htab]; rfl) (fun z hz => nomatch hz) (by decide) (by decide) (hCL _ (List.mem_of_getElem? (i := 2) rfl) _) (gNw_use hOK.2.2.1 (List.mem_of_getElem? (i := 2) rfl)) hce hcv hcl ?_
      refine lv_astore (lv' := [(4, .ref q9), (0, .ref (ad 0)), (1, .int p1), (2, .int p2), (3, .ref o)]) hx hb dL_cancel_13 hl (by decide) rfl (fun ls hl => ?_)
      refine lv_iconst (v := 1) hx hb dL_cancel_15 (by decide) ?_
      exact W.iret (v := 1) hx hb hr (fun t ht hW => ⟨⟨1, (τ, g), rfl, ⟨rfl, rfl, fun h => absurd h (by decide)⟩, by rw [ht]; exact hP, va_K.moved hW.alike hK, hD⟩, hS.F ht⟩) hS.2.2 dL_cancel_16 hlocks
    · refine vx_catch (own := RL) (name := exn 2) hown (tableOf [(0, 10, 13, 36)]) (⟨0, 10, 17, 15⟩ : ExceptionTableEntry) (tableOf []) (by rw [htab]; rfl) (fun z hz => by obtain rfl := List.mem_singleton.mp hz; exact Or.inr ⟨by decide, _, hCL _ (List.mem_of_getElem? (i := 2) rfl) _, hNC (exn 2, exn 3) (List.mem_of_getElem? (i := 3) rfl)⟩) (by decide) (by decide) (hCL _ (List.mem_of_getElem? (i := 1) rfl) _) (gNw_use hOK.2.2.1 (List.mem_of_getElem? (i := 1) rfl)) hce hcv hcl ?_
      refine lv_astore (lv' := [(4, .ref q9), (0, .ref (ad 0)), (1, .int p1), (2, .int p2), (3, .ref o)]) hx hb dL_cancel_17 hl (by decide) rfl (fun ls hl => ?_)
      refine lv_iconst (v := 2) hx hb dL_cancel_19 (by decide) ?_
      exact W.iret (v := 2) hx hb hr (fun t ht hW => ⟨⟨2, (τ, g), rfl, ⟨rfl, rfl, fun h => absurd h (by decide)⟩, by rw [ht]; exact hP, va_K.moved hW.alike hK, hD⟩, hS.F ht⟩) hS.2.2 dL_cancel_20 hlocks
  · subst hres
    obtain ⟨hP, hD⟩ := gl_join hP hD hfr hF9 hP1 hD1
    have hP : va_P D vwCl (wH ad cA o cO τ g) H := hP
    have hD : va_D A (wH ad cA o cO τ g) := hD
    obtain rfl : kk = 0 := by revert hk; simp [kOf]; try omega
    refine lv_i2l (v := r.toInt64) hx hb dL_cancel_8 rfl ?_
    refine va_last hx hb hK hP hD hS 32 26 (wH_32 ad cA o cO τ g) (tH_26 cA cO) vp_in_01 dL_cancel_9 (fun H locs hP hD hS => ?_)
    rw [wHs_32, sb_cl0] at hP hD
    refine lv_goto (tgt := 21) hx hb dL_cancel_10 (by decide) ?_
    refine lv_iconst (v := 0) hx hb dL_cancel_21 (by decide) ?_
    refine W.widen (k := 1) (n := 6) (by omega) (by omega) ?_
    exact W.iret (v := 0) hx hb hr (fun t ht hW => ⟨⟨0, (τ, vp_updL g 0 r.toInt64), rfl, ⟨rfl, rfl, fun _ => rfl⟩, by rw [ht]; exact hP, va_K.moved hW.alike hK, hD⟩, hS.F ht⟩) hS.2.2 dL_cancel_22 hlocks
set_option maxHeartbeats 4000000 in
set_option maxRecDepth 100000 in
theorem tyh_hangUp (l : Launch) (hl9 : l.stackTraces = false) (D : va_G) (ad : Nat → Nat) (cA : Nat → ClassId) (o : Nat) (cO : ClassId) (sz : Nat) (σ : tyS) (g : Nat → Int64) (p1 : Int32) (res : tyX) (kk : Nat) (hF : tyf_T_hangUp σ p1 = some res) (hk : kOf [3, 2] res.1 = some kk) : hMet l yL_hangUp wsL_hangUp ({ frames := 8, cells := 1, slots := 6, locals := 125 } : Room) D ad cA o cO [.ref (ad 0), .int p1, .ref o] sz σ g kk res.2.1.toInt64 res.2.2 := by
  refine ty_ofWH (cc := cL_hangUp) (maxL := 4) (ret := (some .int)) (hh := [(0, 9, 12, 36), (0, 9, 15, 15)]) (by decide) rfl ?_
  intro p e s m args below meth c s₁ B hml hv
  obtain ⟨rfl, hsz, hP, hK, hD0, hNN, hOK, hNC, hCL⟩ := hv
  have hx := B.exec
  have hb := B.bytes
  have hr := B.returns
  have hts := atoms_spec (ws := wsL_hangUp) B.pre
  have hown : s.vm.findClass RL = some m.cls := findClass_of_methodNamed B.named
  have hlocks := B.notSynchronized
  have htab : c.exceptionTable.toList = tableOf [(0, 9, 12, 36), (0, 9, 15, 15)] := vx_table (x := yL_hangUp) B (hts _ List.mem_cons_self)
  subst hsz
  have hD := hD0.self (sz := s.heap.size)
  generalize hAe : va_A (wH ad cA o cO σ g) s.heap.size = A at hD hOK ⊢
  have hA : ∀ q : Nat, s.heap.size ≤ q → A q := fun q h => by rw [← hAe]; exact Or.inr h
  clear hAe hD0
  have hS : va_S A s.heap s.heap [] := va_S.rf
  have hl := lv_entry ([.ref (ad 0), .int p1, .ref o]) (n := 4) (Nat.le_of_ble_eq_true rfl)
  rw [lg_entry_eq]
  generalize (lg_sl ([.ref (ad 0), .int p1, .ref o]) ++ List.replicate (4 - (lg_sl ([.ref (ad 0), .int p1, .ref o])).length) Slot.unset).toArray = ls at hl ⊢
  have hl : lv_has ls 4 [(0, .ref (ad 0)), (1, .int p1), (2, .ref o)] := hl
  have hS9 : CallFix p m c cL_hangUp 4 s _ wsL_hangUp RL := ⟨hx, hb, hml, hown, hts⟩
  refine lv_aload_n hx hb dL_hangUp_0 rfl (lv_at hl 2 rfl) ?_
  refine lv_iconst (v := 0) hx hb dL_hangUp_1 (by decide) ?_
  refine lv_aload_n hx hb dL_hangUp_2 rfl (lv_at hl 0 rfl) ?_
  refine lv_iload_n hx hb dL_hangUp_3 rfl (lv_at hl 1 rfl) ?_
  have hPC : va_P D vwCl (wC ad cA σ) s.heap := hP.lf
  have hDC : va_D A (wC ad cA σ) := hD.lf
  have hF9 := gFree hDC hS hA
  have hrun := gx_runV (p := p) (e := e) (below := below) (meth := meth) (H := s.heap) (locs := []) (R := (headSpec wsL_hangUp ({ frames := 8, cells := 1, slots := 6, locals := 125 } : Room)).room) (A := A) (st0 := [.int p1, .ref (ad 0), .int 0, .ref o]) (As := [.int p1]) (rest := [.int 0, .ref o]) (Qc := gQXi D (wC ad cA) (tC cA) _ res) hS9 (tyc_T_hangUp l D ad cA _ σ p1 _ hl9 hF) (cwV 1 hts gL_hangUp_X4_hangUp rfl rfl rfl hd_X4_hangUp ⟨by decide, by decide⟩) hOK (tH_C cA cO hK) hPC hDC hS hA hNN (ci := 4) (q0 := 0) (N := 12) rfl (wC_0 ad cA σ) rfl hl.1 rfl (Nat.le_of_ble_eq_true rfl) dL_hangUp_4 ⟨by decide, by decide⟩
  refine gl_runi (rest2 := .ref (ad 0) :: [.int p1]) hrun hDC hS hA (fun E ce q9 τ H locs hres hP1 hD1 hfr hS hce hcv hcl => ?_) (fun r τ H locs hres hP1 hD1 hfr hS => ?_)
  · obtain ⟨k, rfl, rfl⟩ := hres
    obtain ⟨hP, hD⟩ := gl_join hP hD hfr hF9 hP1 hD1
    have hP : va_P D vwCl (wH ad cA o cO τ g) H := hP
    have hD : va_D A (wH ad cA o cO τ g) := hD
    have hc : (k = 2 ∧ kk = 1) ∨ (k = 1 ∧ kk = 2) := by
      rcases k with _ | _ | _ | k
      · revert hk; simp [kOf, List.idxOf?, List.findIdx?, List.findIdx?.go]; try omega
      · revert hk; simp [kOf, List.idxOf?, List.findIdx?, List.findIdx?.go]; try omega
      · revert hk; simp [kOf, List.idxOf?, List.findIdx?, List.findIdx?.go]; try omega
      · exfalso; revert hk; simp [kOf, List.idxOf?, List.findIdx?, List.findIdx?.go]
    rcases hc with ⟨rfl, rfl⟩ | ⟨rfl, rfl⟩
    · refine vx_catch (own := RL) (name := exn 3) hown (tableOf []) (⟨0, 9, 12, 36⟩ : ExceptionTableEntry) (tableOf [(0, 9, 15, 15)]) (by rw [htab]; rfl) (fun z hz => nomatch hz) (by decide) (by decide) (hCL _ (List.mem_of_getElem? (i := 2) rfl) _) (gNw_use hOK.2.2.1 (List.mem_of_getElem? (i := 2) rfl)) hce hcv hcl ?_
      refine lv_astore_n (lv' := [(3, .ref q9), (0, .ref (ad 0)), (1, .int p1), (2, .ref o)]) hx hb dL_hangUp_12 rfl hl (by decide) rfl (fun ls hl => ?_)
      refine lv_iconst (v := 1) hx hb dL_hangUp_13 (by decide) ?_
      exact W.iret (v := 1) hx hb hr (fun t ht hW => ⟨⟨1, (τ, g), rfl, ⟨rfl, rfl, fun h => absurd h (by decide)⟩, by rw [ht]; exact hP, va_K.moved hW.alike hK, hD⟩, hS.F ht⟩) hS.2.2 dL_hangUp_14 hlocks
    · refine vx_catch (own := RL) (name := exn 2) hown (tableOf [(0, 9, 12, 36)]) (⟨0, 9, 15, 15⟩ : ExceptionTableEntry) (tableOf []) (by rw [htab]; rfl) (fun z hz => by obtain rfl := List.mem_singleton.mp hz; exact Or.inr ⟨by decide, _, hCL _ (List.mem_of_getElem? (i := 2) rfl) _, hNC (exn 2, exn 3) (List.mem_of_getElem? (i := 3) rfl)⟩) (by decide) (by decide) (hCL _ (List.mem_of_getElem? (i := 1) rfl) _) (gNw_use hOK.2.2.1 (List.mem_of_getElem? (i := 1) rfl)) hce hcv hcl ?_
      refine lv_astore_n (lv' := [(3, .ref q9), (0, .ref (ad 0)), (1, .int p1), (2, .ref o)]) hx hb dL_hangUp_15 rfl hl (by decide) rfl (fun ls hl => ?_)
      refine lv_iconst (v := 2) hx hb dL_hangUp_16 (by decide) ?_
      exact W.iret (v := 2) hx hb hr (fun t ht hW => ⟨⟨2, (τ, g), rfl, ⟨rfl, rfl, fun h => absurd h (by decide)⟩, by rw [ht]; exact hP, va_K.moved hW.alike hK, hD⟩, hS.F ht⟩) hS.2.2 dL_hangUp_17 hlocks
  · subst hres
    obtain ⟨hP, hD⟩ := gl_join hP hD hfr hF9 hP1 hD1
    have hP : va_P D vwCl (wH ad cA o cO τ g) H := hP
    have hD : va_D A (wH ad cA o cO τ g) := hD
    obtain rfl : kk = 0 := by revert hk; simp [kOf]; try omega
    refine lv_i2l (v := r.toInt64) hx hb dL_hangUp_7 rfl ?_
    refine va_last hx hb hK hP hD hS 32 26 (wH_32 ad cA o cO τ g) (tH_26 cA cO) vp_in_01 dL_hangUp_8 (fun H locs hP hD hS => ?_)
    rw [wHs_32, sb_cl0] at hP hD
    refine lv_goto (tgt := 18) hx hb dL_hangUp_9 (by decide) ?_
    refine lv_iconst (v := 0) hx hb dL_hangUp_18 (by decide) ?_
    refine W.widen (k := 1) (n := 6) (by omega) (by omega) ?_
    exact W.iret (v := 0) hx hb hr (fun t ht hW => ⟨⟨0, (τ, vp_updL g 0 r.toInt64), rfl, ⟨rfl, rfl, fun _ => rfl⟩, by rw [ht]; exact hP, va_K.moved hW.alike hK, hD⟩, hS.F ht⟩) hS.2.2 dL_hangUp_19 hlocks
set_option maxHeartbeats 4000000 in
set_option maxRecDepth 100000 in
theorem tyh_callOf (l : Launch) (hl9 : l.stackTraces = false) (D : va_G) (ad : Nat → Nat) (cA : Nat → ClassId) (o : Nat) (cO : ClassId) (sz : Nat) (σ : tyS) (g : Nat → Int64) (p1 : Int32) (res : tyX) (kk : Nat) (hF : tyf_T_callOf σ p1 = some res) (hk : kOf [1] res.1 = some kk) : hMet l yL_callOf wsL_callOf ({ frames := 8, cells := 1, slots := 6, locals := 123 } : Room) D ad cA o cO [.ref (ad 0), .int p1, .ref o] sz σ g kk res.2.1.toInt64 res.2.2 := by
  refine ty_ofWH (cc := cL_callOf) (maxL := 4) (ret := (some .int)) (hh := [(0, 9, 12, 13)]) (by decide) rfl ?_
  intro p e s m args below meth c s₁ B hml hv
  obtain ⟨rfl, hsz, hP, hK, hD0, hNN, hOK, hNC, hCL⟩ := hv
  have hx := B.exec
  have hb := B.bytes
  have hr := B.returns
  have hts := atoms_spec (ws := wsL_callOf) B.pre
  have hown : s.vm.findClass RL = some m.cls := findClass_of_methodNamed B.named
  have hlocks := B.notSynchronized
  have htab : c.exceptionTable.toList = tableOf [(0, 9, 12, 13)] := vx_table (x := yL_callOf) B (hts _ List.mem_cons_self)
  subst hsz
  have hD := hD0.self (sz := s.heap.size)
  generalize hAe : va_A (wH ad cA o cO σ g) s.heap.size = A at hD hOK ⊢
  have hA : ∀ q : Nat, s.heap.size ≤ q → A q := fun q h => by rw [← hAe]; exact Or.inr h
  clear hAe hD0
  have hS : va_S A s.heap s.heap [] := va_S.rf
  have hl := lv_entry ([.ref (ad 0), .int p1, .ref o]) (n := 4) (Nat.le_of_ble_eq_true rfl)
  rw [lg_entry_eq]
  generalize (lg_sl ([.ref (ad 0), .int p1, .ref o]) ++ List.replicate (4 - (lg_sl ([.ref (ad 0), .int p1, .ref o])).length) Slot.unset).toArray = ls at hl ⊢
  have hl : lv_has ls 4 [(0, .ref (ad 0)), (1, .int p1), (2, .ref o)] := hl
  have hS9 : CallFix p m c cL_callOf 4 s _ wsL_callOf RL := ⟨hx, hb, hml, hown, hts⟩
  refine lv_aload_n hx hb dL_callOf_0 rfl (lv_at hl 2 rfl) ?_
  refine lv_iconst (v := 0) hx hb dL_callOf_1 (by decide) ?_
  refine lv_aload_n hx hb dL_callOf_2 rfl (lv_at hl 0 rfl) ?_
  refine lv_iload_n hx hb dL_callOf_3 rfl (lv_at hl 1 rfl) ?_
  have hPC : va_P D vwCl (wC ad cA σ) s.heap := hP.lf
  have hDC : va_D A (wC ad cA σ) := hD.lf
  have hF9 := gFree hDC hS hA
  have hrun := gx_runV (p := p) (e := e) (below := below) (meth := meth) (H := s.heap) (locs := []) (R := (headSpec wsL_callOf ({ frames := 8, cells := 1, slots := 6, locals := 123 } : Room)).room) (A := A) (st0 := [.int p1, .ref (ad 0), .int 0, .ref o]) (As := [.int p1]) (rest := [.int 0, .ref o]) (Qc := gQXi D (wC ad cA) (tC cA) _ res) hS9 (tyc_T_callOf l D ad cA _ σ p1 _ hl9 hF) (cwV 1 hts gL_callOf_X4_callOf rfl rfl rfl hd_X4_callOf ⟨by decide, by decide⟩) hOK (tH_C cA cO hK) hPC hDC hS hA hNN (ci := 4) (q0 := 0) (N := 12) rfl (wC_0 ad cA σ) rfl hl.1 rfl (Nat.le_of_ble_eq_true rfl) dL_callOf_4 ⟨by decide, by decide⟩
  refine gl_runi (rest2 := .ref (ad 0) :: [.int p1]) hrun hDC hS hA (fun E ce q9 τ H locs hres hP1 hD1 hfr hS hce hcv hcl => ?_) (fun r τ H locs hres hP1 hD1 hfr hS => ?_)
  · obtain ⟨k, rfl, rfl⟩ := hres
    obtain ⟨hP, hD⟩ := gl_join hP hD hfr hF9 hP1 hD1
    have hP : va_P D vwCl (wH ad cA o cO τ g) H := hP
    have hD : va_D A (wH ad cA o cO τ g) := hD
    have hc : (k = 0 ∧ kk = 1) := by
      rcases k with _ | _ | _ | k
      · revert hk; simp [kOf, List.idxOf?, List.findIdx?, List.findIdx?.go]; try omega
      · revert hk; simp [kOf, List.idxOf?, List.findIdx?, List.findIdx?.go]; try omega
      · revert hk; simp [kOf, List.idxOf?, List.findIdx?, List.findIdx?.go]; try omega
      · exfalso; revert hk; simp [kOf, List.idxOf?, List.findIdx?, List.findIdx?.go]
    obtain ⟨rfl, rfl⟩ := hc
    refine vx_catch (own := RL) (name := exn 1) hown (tableOf []) (⟨0, 9, 12, 13⟩ : ExceptionTableEntry) (tableOf []) (by rw [htab]; rfl) (fun z hz => nomatch hz) (by decide) (by decide) (hCL _ (List.mem_of_getElem? (i := 0) rfl) _) (gNw_use hOK.2.2.1 (List.mem_of_getElem? (i := 0) rfl)) hce hcv hcl ?_
    refine lv_astore_n (lv' := [(3, .ref q9), (0, .ref (ad 0)), (1, .int p1), (2, .ref o)]) hx hb dL_callOf_12 rfl hl (by decide) rfl (fun ls hl => ?_)
    refine lv_iconst (v := 1) hx hb dL_callOf_13 (by decide) ?_
    exact W.iret (v := 1) hx hb hr (fun t ht hW => ⟨⟨1, (τ, g), rfl, ⟨rfl, rfl, fun h => absurd h (by decide)⟩, by rw [ht]; exact hP, va_K.moved hW.alike hK, hD⟩, hS.F ht⟩) hS.2.2 dL_callOf_14 hlocks
  · subst hres
    obtain ⟨hP, hD⟩ := gl_join hP hD hfr hF9 hP1 hD1
    have hP : va_P D vwCl (wH ad cA o cO τ g) H := hP
    have hD : va_D A (wH ad cA o cO τ g) := hD
    obtain rfl : kk = 0 := by revert hk; simp [kOf]; try omega
    refine lv_i2l (v := r.toInt64) hx hb dL_callOf_7 rfl ?_
    refine va_last hx hb hK hP hD hS 32 26 (wH_32 ad cA o cO τ g) (tH_26 cA cO) vp_in_01 dL_callOf_8 (fun H locs hP hD hS => ?_)
    rw [wHs_32, sb_cl0] at hP hD
    refine lv_goto (tgt := 15) hx hb dL_callOf_9 (by decide) ?_
    refine lv_iconst (v := 0) hx hb dL_callOf_15 (by decide) ?_
    refine W.widen (k := 1) (n := 6) (by omega) (by omega) ?_
    exact W.iret (v := 0) hx hb hr (fun t ht hW => ⟨⟨0, (τ, vp_updL g 0 r.toInt64), rfl, ⟨rfl, rfl, fun _ => rfl⟩, by rw [ht]; exact hP, va_K.moved hW.alike hK, hD⟩, hS.F ht⟩) hS.2.2 dL_callOf_16 hlocks
set_option maxHeartbeats 4000000 in
set_option maxRecDepth 100000 in
theorem tyh_way (l : Launch) (hl9 : l.stackTraces = false) (D : va_G) (ad : Nat → Nat) (cA : Nat → ClassId) (o : Nat) (cO : ClassId) (sz : Nat) (σ : tyS) (g : Nat → Int64) (p1 : Int32) (res : tyX) (kk : Nat) (hF : tyf_T_way σ p1 = some res) (hk : kOf [3, 2] res.1 = some kk) : hMet l yL_way wsL_way ({ frames := 8, cells := 1, slots := 6, locals := 124 } : Room) D ad cA o cO [.ref (ad 0), .int p1, .ref o] sz σ g kk res.2.1.toInt64 res.2.2 := by
  refine ty_ofWH (cc := cL_way) (maxL := 4) (ret := (some .int)) (hh := [(0, 9, 12, 36), (0, 9, 15, 15)]) (by decide) rfl ?_
  intro p e s m args below meth c s₁ B hml hv
  obtain ⟨rfl, hsz, hP, hK, hD0, hNN, hOK, hNC, hCL⟩ := hv
  have hx := B.exec
  have hb := B.bytes
  have hr := B.returns
  have hts := atoms_spec (ws := wsL_way) B.pre
  have hown : s.vm.findClass RL = some m.cls := findClass_of_methodNamed B.named
  have hlocks := B.notSynchronized
  have htab : c.exceptionTable.toList = tableOf [(0, 9, 12, 36), (0, 9, 15, 15)] := vx_table (x := yL_way) B (hts _ List.mem_cons_self)
  subst hsz
  have hD := hD0.self (sz := s.heap.size)
  generalize hAe : va_A (wH ad cA o cO σ g) s.heap.size = A at hD hOK ⊢
  have hA : ∀ q : Nat, s.heap.size ≤ q → A q := fun q h => by rw [← hAe]; exact Or.inr h
  clear hAe hD0
  have hS : va_S A s.heap s.heap [] := va_S.rf
  have hl := lv_entry ([.ref (ad 0), .int p1, .ref o]) (n := 4) (Nat.le_of_ble_eq_true rfl)
  rw [lg_entry_eq]
  generalize (lg_sl ([.ref (ad 0), .int p1, .ref o]) ++ List.replicate (4 - (lg_sl ([.ref (ad 0), .int p1, .ref o])).length) Slot.unset).toArray = ls at hl ⊢
  have hl : lv_has ls 4 [(0, .ref (ad 0)), (1, .int p1), (2, .ref o)] := hl
  have hS9 : CallFix p m c cL_way 4 s _ wsL_way RL := ⟨hx, hb, hml, hown, hts⟩
  refine lv_aload_n hx hb dL_way_0 rfl (lv_at hl 2 rfl) ?_
  refine lv_iconst (v := 0) hx hb dL_way_1 (by decide) ?_
  refine lv_aload_n hx hb dL_way_2 rfl (lv_at hl 0 rfl) ?_
  refine lv_iload_n hx hb dL_way_3 rfl (lv_at hl 1 rfl) ?_
  have hPC : va_P D vwCl (wC ad cA σ) s.heap := hP.lf
  have hDC : va_D A (wC ad cA σ) := hD.lf
  have hF9 := gFree hDC hS hA
  have hrun := gx_runV (p := p) (e := e) (below := below) (meth := meth) (H := s.heap) (locs := []) (R := (headSpec wsL_way ({ frames := 8, cells := 1, slots := 6, locals := 124 } : Room)).room) (A := A) (st0 := [.int p1, .ref (ad 0), .int 0, .ref o]) (As := [.int p1]) (rest := [.int 0, .ref o]) (Qc := gQXi D (wC ad cA) (tC cA) _ res) hS9 (tyc_T_way l D ad cA _ σ p1 _ hl9 hF) (cwV 1 hts gL_way_X4_way rfl rfl rfl hd_X4_way ⟨by decide, by decide⟩) hOK (tH_C cA cO hK) hPC hDC hS hA hNN (ci := 4) (q0 := 0) (N := 12) rfl (wC_0 ad cA σ) rfl hl.1 rfl (Nat.le_of_ble_eq_true rfl) dL_way_4 ⟨by decide, by decide⟩
  refine gl_runi (rest2 := .ref (ad 0) :: [.int p1]) hrun hDC hS hA (fun E ce q9 τ H locs hres hP1 hD1 hfr hS hce hcv hcl => ?_) (fun r τ H locs hres hP1 hD1 hfr hS => ?_)
  · obtain ⟨k, rfl, rfl⟩ := hres
    obtain ⟨hP, hD⟩ := gl_join hP hD hfr hF9 hP1 hD1
    have hP : va_P D vwCl (wH ad cA o cO τ g) H := hP
    have hD : va_D A (wH ad cA o cO τ g) := hD
    have hc : (k = 2 ∧ kk = 1) ∨ (k = 1 ∧ kk = 2) := by
      rcases k with _ | _ | _ | k
      · revert hk; simp [kOf, List.idxOf?, List.findIdx?, List.findIdx?.go]; try omega
      · revert hk; simp [kOf, List.idxOf?, List.findIdx?, List.findIdx?.go]; try omega
      · revert hk; simp [kOf, List.idxOf?, List.findIdx?, List.findIdx?.go]; try omega
      · exfalso; revert hk; simp [kOf, List.idxOf?, List.findIdx?, List.findIdx?.go]
    rcases hc with ⟨rfl, rfl⟩ | ⟨rfl, rfl⟩
    · refine vx_catch (own := RL) (name := exn 3) hown (tableOf []) (⟨0, 9, 12, 36⟩ : ExceptionTableEntry) (tableOf [(0, 9, 15, 15)]) (by rw [htab]; rfl) (fun z hz => nomatch hz) (by decide) (by decide) (hCL _ (List.mem_of_getElem? (i := 2) rfl) _) (gNw_use hOK.2.2.1 (List.mem_of_getElem? (i := 2) rfl)) hce hcv hcl ?_
      refine lv_astore_n (lv' := [(3, .ref q9), (0, .ref (ad 0)), (1, .int p1), (2, .ref o)]) hx hb dL_way_12 rfl hl (by decide) rfl (fun ls hl => ?_)
      refine lv_iconst (v := 1) hx hb dL_way_13 (by decide) ?_
      exact W.iret (v := 1) hx hb hr (fun t ht hW => ⟨⟨1, (τ, g), rfl, ⟨rfl, rfl, fun h => absurd h (by decide)⟩, by rw [ht]; exact hP, va_K.moved hW.alike hK, hD⟩, hS.F ht⟩) hS.2.2 dL_way_14 hlocks
    · refine vx_catch (own := RL) (name := exn 2) hown (tableOf [(0, 9, 12, 36)]) (⟨0, 9, 15, 15⟩ : ExceptionTableEntry) (tableOf []) (by rw [htab]; rfl) (fun z hz => by obtain rfl := List.mem_singleton.mp hz; exact Or.inr ⟨by decide, _, hCL _ (List.mem_of_getElem? (i := 2) rfl) _, hNC (exn 2, exn 3) (List.mem_of_getElem? (i := 3) rfl)⟩) (by decide) (by decide) (hCL _ (List.mem_of_getElem? (i := 1) rfl) _) (gNw_use hOK.2.2.1 (List.mem_of_getElem? (i := 1) rfl)) hce hcv hcl ?_
      refine lv_astore_n (lv' := [(3, .ref q9), (0, .ref (ad 0)), (1, .int p1), (2, .ref o)]) hx hb dL_way_15 rfl hl (by decide) rfl (fun ls hl => ?_)
      refine lv_iconst (v := 2) hx hb dL_way_16 (by decide) ?_
      exact W.iret (v := 2) hx hb hr (fun t ht hW => ⟨⟨2, (τ, g), rfl, ⟨rfl, rfl, fun h => absurd h (by decide)⟩, by rw [ht]; exact hP, va_K.moved hW.alike hK, hD⟩, hS.F ht⟩) hS.2.2 dL_way_17 hlocks
  · subst hres
    obtain ⟨hP, hD⟩ := gl_join hP hD hfr hF9 hP1 hD1
    have hP : va_P D vwCl (wH ad cA o cO τ g) H := hP
    have hD : va_D A (wH ad cA o cO τ g) := hD
    obtain rfl : kk = 0 := by revert hk; simp [kOf]; try omega
    refine lv_i2l (v := r.toInt64) hx hb dL_way_7 rfl ?_
    refine va_last hx hb hK hP hD hS 32 26 (wH_32 ad cA o cO τ g) (tH_26 cA cO) vp_in_01 dL_way_8 (fun H locs hP hD hS => ?_)
    rw [wHs_32, sb_cl0] at hP hD
    refine lv_goto (tgt := 18) hx hb dL_way_9 (by decide) ?_
    refine lv_iconst (v := 0) hx hb dL_way_18 (by decide) ?_
    refine W.widen (k := 1) (n := 6) (by omega) (by omega) ?_
    exact W.iret (v := 0) hx hb hr (fun t ht hW => ⟨⟨0, (τ, vp_updL g 0 r.toInt64), rfl, ⟨rfl, rfl, fun _ => rfl⟩, by rw [ht]; exact hP, va_K.moved hW.alike hK, hD⟩, hS.F ht⟩) hS.2.2 dL_way_19 hlocks
set_option maxHeartbeats 4000000 in
set_option maxRecDepth 100000 in
theorem tyh_cut (l : Launch) (hl9 : l.stackTraces = false) (D : va_G) (ad : Nat → Nat) (cA : Nat → ClassId) (o : Nat) (cO : ClassId) (sz : Nat) (σ : tyS) (g : Nat → Int64) (p1 : Int32) (p2 : Int32) (p3 : Int32) (res : tyX) (kk : Nat) (hF : tyf_T_cut σ p1 p2 p3 = some res) (hk : kOf [1, 2] res.1 = some kk) : hMet l yL_cut wsL_cut ({ frames := 8, cells := 1, slots := 6, locals := 129 } : Room) D ad cA o cO [.ref (ad 0), .int p1, .int p2, .int p3, .ref o] sz σ g kk res.2.1.toInt64 res.2.2 := by
  refine ty_ofWH (cc := cL_cut) (maxL := 6) (ret := (some .int)) (hh := [(0, 12, 15, 13), (0, 12, 19, 15)]) (by decide) rfl ?_
  intro p e s m args below meth c s₁ B hml hv
  obtain ⟨rfl, hsz, hP, hK, hD0, hNN, hOK, hNC, hCL⟩ := hv
  have hx := B.exec
  have hb := B.bytes
  have hr := B.returns
  have hts := atoms_spec (ws := wsL_cut) B.pre
  have hown : s.vm.findClass RL = some m.cls := findClass_of_methodNamed B.named
  have hlocks := B.notSynchronized
  have htab : c.exceptionTable.toList = tableOf [(0, 12, 15, 13), (0, 12, 19, 15)] := vx_table (x := yL_cut) B (hts _ List.mem_cons_self)
  subst hsz
  have hD := hD0.self (sz := s.heap.size)
  generalize hAe : va_A (wH ad cA o cO σ g) s.heap.size = A at hD hOK ⊢
  have hA : ∀ q : Nat, s.heap.size ≤ q → A q := fun q h => by rw [← hAe]; exact Or.inr h
  clear hAe hD0
  have hS : va_S A s.heap s.heap [] := va_S.rf
  have hl := lv_entry ([.ref (ad 0), .int p1, .int p2, .int p3, .ref o]) (n := 6) (Nat.le_of_ble_eq_true rfl)
  rw [lg_entry_eq]
  generalize (lg_sl ([.ref (ad 0), .int p1, .int p2, .int p3, .ref o]) ++ List.replicate (6 - (lg_sl ([.ref (ad 0), .int p1, .int p2, .int p3, .ref o])).length) Slot.unset).toArray = ls at hl ⊢
  have hl : lv_has ls 6 [(0, .ref (ad 0)), (1, .int p1), (2, .int p2), (3, .int p3), (4, .ref o)] := hl
  have hS9 : CallFix p m c cL_cut 6 s _ wsL_cut RL := ⟨hx, hb, hml, hown, hts⟩
  refine lv_aload hx hb dL_cut_0 (lv_at hl 4 rfl) ?_
  refine lv_iconst (v := 0) hx hb dL_cut_2 (by decide) ?_
  refine lv_aload_n hx hb dL_cut_3 rfl (lv_at hl 0 rfl) ?_
  refine lv_iload_n hx hb dL_cut_4 rfl (lv_at hl 1 rfl) ?_
  refine lv_iload_n hx hb dL_cut_5 rfl (lv_at hl 2 rfl) ?_
  refine lv_iload_n hx hb dL_cut_6 rfl (lv_at hl 3 rfl) ?_
  have hPC : va_P D vwCl (wC ad cA σ) s.heap := hP.lf
  have hDC : va_D A (wC ad cA σ) := hD.lf
  have hF9 := gFree hDC hS hA
  have hrun := gx_runV (p := p) (e := e) (below := below) (meth := meth) (H := s.heap) (locs := []) (R := (headSpec wsL_cut ({ frames := 8, cells := 1, slots := 6, locals := 129 } : Room)).room) (A := A) (st0 := [.int p3, .int p2, .int p1, .ref (ad 0), .int 0, .ref o]) (As := [.int p1, .int p2, .int p3]) (rest := [.int 0, .ref o]) (Qc := gQXi D (wC ad cA) (tC cA) _ res) hS9 (tyc_T_cut l D ad cA _ σ p1 p2 p3 _ hl9 hF) (cwV 3 hts gL_cut_X4_cut rfl rfl rfl hd_X4_cut ⟨by decide, by decide⟩) hOK (tH_C cA cO hK) hPC hDC hS hA hNN (ci := 4) (q0 := 0) (N := 12) rfl (wC_0 ad cA σ) rfl hl.1 rfl (Nat.le_of_ble_eq_true rfl) dL_cut_7 ⟨by decide, by decide⟩
  refine gl_runi (rest2 := .ref (ad 0) :: [.int p1, .int p2, .int p3]) hrun hDC hS hA (fun E ce q9 τ H locs hres hP1 hD1 hfr hS hce hcv hcl => ?_) (fun r τ H locs hres hP1 hD1 hfr hS => ?_)
  · obtain ⟨k, rfl, rfl⟩ := hres
    obtain ⟨hP, hD⟩ := gl_join hP hD hfr hF9 hP1 hD1
    have hP : va_P D vwCl (wH ad cA o cO τ g) H := hP
    have hD : va_D A (wH ad cA o cO τ g) := hD
    have hc : (k = 0 ∧ kk = 1) ∨ (k = 1 ∧ kk = 2) := by
      rcases k with _ | _ | _ | k
      · revert hk; simp [kOf, List.idxOf?, List.findIdx?, List.findIdx?.go]; try omega
      · revert hk; simp [kOf, List.idxOf?, List.findIdx?, List.findIdx?.go]; try omega
      · revert hk; simp [kOf, List.idxOf?, List.findIdx?, List.findIdx?.go]; try omega
      · exfalso; revert hk; simp [kOf, List.idxOf?, List.findIdx?, List.findIdx?.go]
    rcases hc with ⟨rfl, rfl⟩ | ⟨rfl, rfl⟩
    · refine vx_catch (own := RL) (name := exn 1) hown (tableOf []) (⟨0, 12, 15, 13⟩ : ExceptionTableEntry) (tableOf [(0, 12, 19, 15)]) (by rw [htab]; rfl) (fun z hz => nomatch hz) (by decide) (by decide) (hCL _ (List.mem_of_getElem? (i := 0) rfl) _) (gNw_use hOK.2.2.1 (List.mem_of_getElem? (i := 0) rfl)) hce hcv hcl ?_
      refine lv_astore (lv' := [(5, .ref q9), (0, .ref (ad 0)), (1, .int p1), (2, .int p2), (3, .int p3), (4, .ref o)]) hx hb dL_cut_15 hl (by decide) rfl (fun ls hl => ?_)
      refine lv_iconst (v := 1) hx hb dL_cut_17 (by decide) ?_
      exact W.iret (v := 1) hx hb hr (fun t ht hW => ⟨⟨1, (τ, g), rfl, ⟨rfl, rfl, fun h => absurd h (by decide)⟩, by rw [ht]; exact hP, va_K.moved hW.alike hK, hD⟩, hS.F ht⟩) hS.2.2 dL_cut_18 hlocks
    · refine vx_catch (own := RL) (name := exn 2) hown (tableOf [(0, 12, 15, 13)]) (⟨0, 12, 19, 15⟩ : ExceptionTableEntry) (tableOf []) (by rw [htab]; rfl) (fun z hz => by obtain rfl := List.mem_singleton.mp hz; exact Or.inr ⟨by decide, _, hCL _ (List.mem_of_getElem? (i := 0) rfl) _, hNC (exn 2, exn 1) (List.mem_of_getElem? (i := 2) rfl)⟩) (by decide) (by decide) (hCL _ (List.mem_of_getElem? (i := 1) rfl) _) (gNw_use hOK.2.2.1 (List.mem_of_getElem? (i := 1) rfl)) hce hcv hcl ?_
      refine lv_astore (lv' := [(5, .ref q9), (0, .ref (ad 0)), (1, .int p1), (2, .int p2), (3, .int p3), (4, .ref o)]) hx hb dL_cut_19 hl (by decide) rfl (fun ls hl => ?_)
      refine lv_iconst (v := 2) hx hb dL_cut_21 (by decide) ?_
      exact W.iret (v := 2) hx hb hr (fun t ht hW => ⟨⟨2, (τ, g), rfl, ⟨rfl, rfl, fun h => absurd h (by decide)⟩, by rw [ht]; exact hP, va_K.moved hW.alike hK, hD⟩, hS.F ht⟩) hS.2.2 dL_cut_22 hlocks
  · subst hres
    obtain ⟨hP, hD⟩ := gl_join hP hD hfr hF9 hP1 hD1
    have hP : va_P D vwCl (wH ad cA o cO τ g) H := hP
    have hD : va_D A (wH ad cA o cO τ g) := hD
    obtain rfl : kk = 0 := by revert hk; simp [kOf]; try omega
    refine lv_i2l (v := r.toInt64) hx hb dL_cut_10 rfl ?_
    refine va_last hx hb hK hP hD hS 32 26 (wH_32 ad cA o cO τ g) (tH_26 cA cO) vp_in_01 dL_cut_11 (fun H locs hP hD hS => ?_)
    rw [wHs_32, sb_cl0] at hP hD
    refine lv_goto (tgt := 23) hx hb dL_cut_12 (by decide) ?_
    refine lv_iconst (v := 0) hx hb dL_cut_23 (by decide) ?_
    refine W.widen (k := 1) (n := 6) (by omega) (by omega) ?_
    exact W.iret (v := 0) hx hb hr (fun t ht hW => ⟨⟨0, (τ, vp_updL g 0 r.toInt64), rfl, ⟨rfl, rfl, fun _ => rfl⟩, by rw [ht]; exact hP, va_K.moved hW.alike hK, hD⟩, hS.F ht⟩) hS.2.2 dL_cut_24 hlocks
set_option maxHeartbeats 4000000 in
set_option maxRecDepth 100000 in
theorem tyh_mend (l : Launch) (hl9 : l.stackTraces = false) (D : va_G) (ad : Nat → Nat) (cA : Nat → ClassId) (o : Nat) (cO : ClassId) (sz : Nat) (σ : tyS) (g : Nat → Int64) (p1 : Int32) (p2 : Int32) (p3 : Int32) (res : tyX) (kk : Nat) (hF : tyf_T_mend σ p1 p2 p3 = some res) (hk : kOf [1, 2] res.1 = some kk) : hMetv l yL_mend wsL_mend ({ frames := 8, cells := 1, slots := 6, locals := 128 } : Room) D ad cA o cO [.ref (ad 0), .int p1, .int p2, .int p3] sz σ g kk res.2.2 := by
  refine ty_ofWH (cc := cL_mend) (maxL := 5) (ret := (some .int)) (hh := [(0, 7, 10, 13), (0, 7, 14, 15)]) (by decide) rfl ?_
  intro p e s m args below meth c s₁ B hml hv
  obtain ⟨rfl, hsz, hP, hK, hD0, hNN, hOK, hNC, hCL⟩ := hv
  have hx := B.exec
  have hb := B.bytes
  have hr := B.returns
  have hts := atoms_spec (ws := wsL_mend) B.pre
  have hown : s.vm.findClass RL = some m.cls := findClass_of_methodNamed B.named
  have hlocks := B.notSynchronized
  have htab : c.exceptionTable.toList = tableOf [(0, 7, 10, 13), (0, 7, 14, 15)] := vx_table (x := yL_mend) B (hts _ List.mem_cons_self)
  subst hsz
  have hD := hD0.self (sz := s.heap.size)
  generalize hAe : va_A (wH ad cA o cO σ g) s.heap.size = A at hD hOK ⊢
  have hA : ∀ q : Nat, s.heap.size ≤ q → A q := fun q h => by rw [← hAe]; exact Or.inr h
  clear hAe hD0
  have hS : va_S A s.heap s.heap [] := va_S.rf
  have hl := lv_entry ([.ref (ad 0), .int p1, .int p2, .int p3]) (n := 5) (Nat.le_of_ble_eq_true rfl)
  rw [lg_entry_eq]
  generalize (lg_sl ([.ref (ad 0), .int p1, .int p2, .int p3]) ++ List.replicate (5 - (lg_sl ([.ref (ad 0), .int p1, .int p2, .int p3])).length) Slot.unset).toArray = ls at hl ⊢
  have hl : lv_has ls 5 [(0, .ref (ad 0)), (1, .int p1), (2, .int p2), (3, .int p3)] := hl
  have hS9 : CallFix p m c cL_mend 5 s _ wsL_mend RL := ⟨hx, hb, hml, hown, hts⟩
  refine lv_aload_n hx hb dL_mend_0 rfl (lv_at hl 0 rfl) ?_
  refine lv_iload_n hx hb dL_mend_1 rfl (lv_at hl 1 rfl) ?_
  refine lv_iload_n hx hb dL_mend_2 rfl (lv_at hl 2 rfl) ?_
  refine lv_iload_n hx hb dL_mend_3 rfl (lv_at hl 3 rfl) ?_
  have hPC : va_P D vwCl (wC ad cA σ) s.heap := hP.lf
  have hDC : va_D A (wC ad cA σ) := hD.lf
  have hF9 := gFree hDC hS hA
  have hrun := gx_runV (p := p) (e := e) (below := below) (meth := meth) (H := s.heap) (locs := []) (R := (headSpec wsL_mend ({ frames := 8, cells := 1, slots := 6, locals := 128 } : Room)).room) (A := A) (st0 := [.int p3, .int p2, .int p1, .ref (ad 0)]) (As := [.int p1, .int p2, .int p3]) (rest := []) (Qc := gQXv D (wC ad cA) (tC cA) _ res) hS9 (tyc_T_mend l D ad cA _ σ p1 p2 p3 _ hl9 hF) (cwV 3 hts gL_mend_X4_mend rfl rfl rfl hd_X4_mend ⟨by decide, by decide⟩) hOK (tH_C cA cO hK) hPC hDC hS hA hNN (ci := 4) (q0 := 0) (N := 12) rfl (wC_0 ad cA σ) rfl hl.1 rfl (Nat.le_of_ble_eq_true rfl) dL_mend_4 ⟨by decide, by decide⟩
  refine gl_runv (rest2 := .ref (ad 0) :: [.int p1, .int p2, .int p3]) hrun hDC hS hA (fun E ce q9 τ H locs hres hP1 hD1 hfr hS hce hcv hcl => ?_) (fun τ H locs hres hP1 hD1 hfr hS => ?_)
  · obtain ⟨k, rfl, rfl⟩ := hres
    obtain ⟨hP, hD⟩ := gl_join hP hD hfr hF9 hP1 hD1
    have hP : va_P D vwCl (wH ad cA o cO τ g) H := hP
    have hD : va_D A (wH ad cA o cO τ g) := hD
    have hc : (k = 0 ∧ kk = 1) ∨ (k = 1 ∧ kk = 2) := by
      rcases k with _ | _ | _ | k
      · revert hk; simp [kOf, List.idxOf?, List.findIdx?, List.findIdx?.go]; try omega
      · revert hk; simp [kOf, List.idxOf?, List.findIdx?, List.findIdx?.go]; try omega
      · revert hk; simp [kOf, List.idxOf?, List.findIdx?, List.findIdx?.go]; try omega
      · exfalso; revert hk; simp [kOf, List.idxOf?, List.findIdx?, List.findIdx?.go]
    rcases hc with ⟨rfl, rfl⟩ | ⟨rfl, rfl⟩
    · refine vx_catch (own := RL) (name := exn 1) hown (tableOf []) (⟨0, 7, 10, 13⟩ : ExceptionTableEntry) (tableOf [(0, 7, 14, 15)]) (by rw [htab]; rfl) (fun z hz => nomatch hz) (by decide) (by decide) (hCL _ (List.mem_of_getElem? (i := 0) rfl) _) (gNw_use hOK.2.2.1 (List.mem_of_getElem? (i := 0) rfl)) hce hcv hcl ?_
      refine lv_astore (lv' := [(4, .ref q9), (0, .ref (ad 0)), (1, .int p1), (2, .int p2), (3, .int p3)]) hx hb dL_mend_10 hl (by decide) rfl (fun ls hl => ?_)
      refine lv_iconst (v := 1) hx hb dL_mend_12 (by decide) ?_
      exact W.iret (v := 1) hx hb hr (fun t ht hW => ⟨⟨1, (τ, g), rfl, ⟨rfl, rfl, rfl⟩, by rw [ht]; exact hP, va_K.moved hW.alike hK, hD⟩, hS.F ht⟩) hS.2.2 dL_mend_13 hlocks
    · refine vx_catch (own := RL) (name := exn 2) hown (tableOf [(0, 7, 10, 13)]) (⟨0, 7, 14, 15⟩ : ExceptionTableEntry) (tableOf []) (by rw [htab]; rfl) (fun z hz => by obtain rfl := List.mem_singleton.mp hz; exact Or.inr ⟨by decide, _, hCL _ (List.mem_of_getElem? (i := 0) rfl) _, hNC (exn 2, exn 1) (List.mem_of_getElem? (i := 2) rfl)⟩) (by decide) (by decide) (hCL _ (List.mem_of_getElem? (i := 1) rfl) _) (gNw_use hOK.2.2.1 (List.mem_of_getElem? (i := 1) rfl)) hce hcv hcl ?_
      refine lv_astore (lv' := [(4, .ref q9), (0, .ref (ad 0)), (1, .int p1), (2, .int p2), (3, .int p3)]) hx hb dL_mend_14 hl (by decide) rfl (fun ls hl => ?_)
      refine lv_iconst (v := 2) hx hb dL_mend_16 (by decide) ?_
      exact W.iret (v := 2) hx hb hr (fun t ht hW => ⟨⟨2, (τ, g), rfl, ⟨rfl, rfl, rfl⟩, by rw [ht]; exact hP, va_K.moved hW.alike hK, hD⟩, hS.F ht⟩) hS.2.2 dL_mend_17 hlocks
  · subst hres
    obtain ⟨hP, hD⟩ := gl_join hP hD hfr hF9 hP1 hD1
    have hP : va_P D vwCl (wH ad cA o cO τ g) H := hP
    have hD : va_D A (wH ad cA o cO τ g) := hD
    obtain rfl : kk = 0 := by revert hk; simp [kOf]; try omega
    refine lv_goto (tgt := 18) hx hb dL_mend_7 (by decide) ?_
    refine lv_iconst (v := 0) hx hb dL_mend_18 (by decide) ?_
    refine W.widen (k := 1) (n := 6) (by omega) (by omega) ?_
    exact W.iret (v := 0) hx hb hr (fun t ht hW => ⟨⟨0, (τ, g), rfl, ⟨rfl, rfl, rfl⟩, by rw [ht]; exact hP, va_K.moved hW.alike hK, hD⟩, hS.F ht⟩) hS.2.2 dL_mend_19 hlocks
set_option maxHeartbeats 4000000 in
set_option maxRecDepth 100000 in
theorem tyh_trunk (l : Launch) (hl9 : l.stackTraces = false) (D : va_G) (ad : Nat → Nat) (cA : Nat → ClassId) (o : Nat) (cO : ClassId) (sz : Nat) (σ : tyS) (g : Nat → Int64) (p1 : Int32) (p2 : Int32) (p3 : Int32) (res : tyX) (kk : Nat) (hF : tyf_T_trunk σ p1 p2 p3 = some res) (hk : kOf [1] res.1 = some kk) : hMet l yL_trunk wsL_trunk ({ frames := 8, cells := 1, slots := 6, locals := 127 } : Room) D ad cA o cO [.ref (ad 0), .int p1, .int p2, .int p3, .ref o] sz σ g kk res.2.1.toInt64 res.2.2 := by
  refine ty_ofWH (cc := cL_trunk) (maxL := 6) (ret := (some .int)) (hh := [(0, 12, 15, 13)]) (by decide) rfl ?_
  intro p e s m args below meth c s₁ B hml hv
  obtain ⟨rfl, hsz, hP, hK, hD0, hNN, hOK, hNC, hCL⟩ := hv
  have hx := B.exec
  have hb := B.bytes
  have hr := B.returns
  have hts := atoms_spec (ws := wsL_trunk) B.pre
  have hown : s.vm.findClass RL = some m.cls := findClass_of_methodNamed B.named
  have hlocks := B.notSynchronized
  have htab : c.exceptionTable.toList = tableOf [(0, 12, 15, 13)] := vx_table (x := yL_trunk) B (hts _ List.mem_cons_self)
  subst hsz
  have hD := hD0.self (sz := s.heap.size)
  generalize hAe : va_A (wH ad cA o cO σ g) s.heap.size = A at hD hOK ⊢
  have hA : ∀ q : Nat, s.heap.size ≤ q → A q := fun q h => by rw [← hAe]; exact Or.inr h
  clear hAe hD0
  have hS : va_S A s.heap s.heap [] := va_S.rf
  have hl := lv_entry ([.ref (ad 0), .int p1, .int p2, .int p3, .ref o]) (n := 6) (Nat.le_of_ble_eq_true rfl)
  rw [lg_entry_eq]
  generalize (lg_sl ([.ref (ad 0), .int p1, .int p2, .int p3, .ref o]) ++ List.replicate (6 - (lg_sl ([.ref (ad 0), .int p1, .int p2, .int p3, .ref o])).length) Slot.unset).toArray = ls at hl ⊢
  have hl : lv_has ls 6 [(0, .ref (ad 0)), (1, .int p1), (2, .int p2), (3, .int p3), (4, .ref o)] := hl
  have hS9 : CallFix p m c cL_trunk 6 s _ wsL_trunk RL := ⟨hx, hb, hml, hown, hts⟩
  refine lv_aload hx hb dL_trunk_0 (lv_at hl 4 rfl) ?_
  refine lv_iconst (v := 0) hx hb dL_trunk_2 (by decide) ?_
  refine lv_aload_n hx hb dL_trunk_3 rfl (lv_at hl 0 rfl) ?_
  refine lv_iload_n hx hb dL_trunk_4 rfl (lv_at hl 1 rfl) ?_
  refine lv_iload_n hx hb dL_trunk_5 rfl (lv_at hl 2 rfl) ?_
  refine lv_iload_n hx hb dL_trunk_6 rfl (lv_at hl 3 rfl) ?_
  have hPC : va_P D vwCl (wC ad cA σ) s.heap := hP.lf
  have hDC : va_D A (wC ad cA σ) := hD.lf
  have hF9 := gFree hDC hS hA
  have hrun := gx_runV (p := p) (e := e) (below := below) (meth := meth) (H := s.heap) (locs := []) (R := (headSpec wsL_trunk ({ frames := 8, cells := 1, slots := 6, locals := 127 } : Room)).room) (A := A) (st0 := [.int p3, .int p2, .int p1, .ref (ad 0), .int 0, .ref o]) (As := [.int p1, .int p2, .int p3]) (rest := [.int 0, .ref o]) (Qc := gQXi D (wC ad cA) (tC cA) _ res) hS9 (tyc_T_trunk l D ad cA _ σ p1 p2 p3 _ hl9 hF) (cwV 3 hts gL_trunk_X4_trunk rfl rfl rfl hd_X4_trunk ⟨by decide, by decide⟩) hOK (tH_C cA cO hK) hPC hDC hS hA hNN (ci := 4) (q0 := 0) (N := 12) rfl (wC_0 ad cA σ) rfl hl.1 rfl (Nat.le_of_ble_eq_true rfl) dL_trunk_7 ⟨by decide, by decide⟩
  refine gl_runi (rest2 := .ref (ad 0) :: [.int p1, .int p2, .int p3]) hrun hDC hS hA (fun E ce q9 τ H locs hres hP1 hD1 hfr hS hce hcv hcl => ?_) (fun r τ H locs hres hP1 hD1 hfr hS => ?_)
  · obtain ⟨k, rfl, rfl⟩ := hres
    obtain ⟨hP, hD⟩ := gl_join hP hD hfr hF9 hP1 hD1
    have hP : va_P D vwCl (wH ad cA o cO τ g) H := hP
    have hD : va_D A (wH ad cA o cO τ g) := hD
    have hc : (k = 0 ∧ kk = 1) := by
      rcases k with _ | _ | _ | k
      · revert hk; simp [kOf, List.idxOf?, List.findIdx?, List.findIdx?.go]; try omega
      · revert hk; simp [kOf, List.idxOf?, List.findIdx?, List.findIdx?.go]; try omega
      · revert hk; simp [kOf, List.idxOf?, List.findIdx?, List.findIdx?.go]; try omega
      · exfalso; revert hk; simp [kOf, List.idxOf?, List.findIdx?, List.findIdx?.go]
    obtain ⟨rfl, rfl⟩ := hc
    refine vx_catch (own := RL) (name := exn 1) hown (tableOf []) (⟨0, 12, 15, 13⟩ : ExceptionTableEntry) (tableOf []) (by rw [htab]; rfl) (fun z hz => nomatch hz) (by decide) (by decide) (hCL _ (List.mem_of_getElem? (i := 0) rfl) _) (gNw_use hOK.2.2.1 (List.mem_of_getElem? (i := 0) rfl)) hce hcv hcl ?_
    refine lv_astore (lv' := [(5, .ref q9), (0, .ref (ad 0)), (1, .int p1), (2, .int p2), (3, .int p3), (4, .ref o)]) hx hb dL_trunk_15 hl (by decide) rfl (fun ls hl => ?_)
    refine lv_iconst (v := 1) hx hb dL_trunk_17 (by decide) ?_
    exact W.iret (v := 1) hx hb hr (fun t ht hW => ⟨⟨1, (τ, g), rfl, ⟨rfl, rfl, fun h => absurd h (by decide)⟩, by rw [ht]; exact hP, va_K.moved hW.alike hK, hD⟩, hS.F ht⟩) hS.2.2 dL_trunk_18 hlocks
  · subst hres
    obtain ⟨hP, hD⟩ := gl_join hP hD hfr hF9 hP1 hD1
    have hP : va_P D vwCl (wH ad cA o cO τ g) H := hP
    have hD : va_D A (wH ad cA o cO τ g) := hD
    obtain rfl : kk = 0 := by revert hk; simp [kOf]; try omega
    refine lv_i2l (v := r.toInt64) hx hb dL_trunk_10 rfl ?_
    refine va_last hx hb hK hP hD hS 32 26 (wH_32 ad cA o cO τ g) (tH_26 cA cO) vp_in_01 dL_trunk_11 (fun H locs hP hD hS => ?_)
    rw [wHs_32, sb_cl0] at hP hD
    refine lv_goto (tgt := 19) hx hb dL_trunk_12 (by decide) ?_
    refine lv_iconst (v := 0) hx hb dL_trunk_19 (by decide) ?_
    refine W.widen (k := 1) (n := 6) (by omega) (by omega) ?_
    exact W.iret (v := 0) hx hb hr (fun t ht hW => ⟨⟨0, (τ, vp_updL g 0 r.toInt64), rfl, ⟨rfl, rfl, fun _ => rfl⟩, by rw [ht]; exact hP, va_K.moved hW.alike hK, hD⟩, hS.F ht⟩) hS.2.2 dL_trunk_20 hlocks
set_option maxHeartbeats 4000000 in
set_option maxRecDepth 100000 in
theorem tyh_setLines (l : Launch) (hl9 : l.stackTraces = false) (D : va_G) (ad : Nat → Nat) (cA : Nat → ClassId) (o : Nat) (cO : ClassId) (sz : Nat) (σ : tyS) (g : Nat → Int64) (p1 : Int32) (p2 : Int32) (res : tyX) (kk : Nat) (hF : tyf_T_setLines σ p1 p2 = some res) (hk : kOf [1, 2] res.1 = some kk) : hMet l yL_setLines wsL_setLines ({ frames := 8, cells := 1, slots := 6, locals := 124 } : Room) D ad cA o cO [.ref (ad 0), .int p1, .int p2, .ref o] sz σ g kk res.2.1.toInt64 res.2.2 := by
  refine ty_ofWH (cc := cL_setLines) (maxL := 5) (ret := (some .int)) (hh := [(0, 10, 13, 13), (0, 10, 17, 15)]) (by decide) rfl ?_
  intro p e s m args below meth c s₁ B hml hv
  obtain ⟨rfl, hsz, hP, hK, hD0, hNN, hOK, hNC, hCL⟩ := hv
  have hx := B.exec
  have hb := B.bytes
  have hr := B.returns
  have hts := atoms_spec (ws := wsL_setLines) B.pre
  have hown : s.vm.findClass RL = some m.cls := findClass_of_methodNamed B.named
  have hlocks := B.notSynchronized
  have htab : c.exceptionTable.toList = tableOf [(0, 10, 13, 13), (0, 10, 17, 15)] := vx_table (x := yL_setLines) B (hts _ List.mem_cons_self)
  subst hsz
  have hD := hD0.self (sz := s.heap.size)
  generalize hAe : va_A (wH ad cA o cO σ g) s.heap.size = A at hD hOK ⊢
  have hA : ∀ q : Nat, s.heap.size ≤ q → A q := fun q h => by rw [← hAe]; exact Or.inr h
  clear hAe hD0
  have hS : va_S A s.heap s.heap [] := va_S.rf
  have hl := lv_entry ([.ref (ad 0), .int p1, .int p2, .ref o]) (n := 5) (Nat.le_of_ble_eq_true rfl)
  rw [lg_entry_eq]
  generalize (lg_sl ([.ref (ad 0), .int p1, .int p2, .ref o]) ++ List.replicate (5 - (lg_sl ([.ref (ad 0), .int p1, .int p2, .ref o])).length) Slot.unset).toArray = ls at hl ⊢
  have hl : lv_has ls 5 [(0, .ref (ad 0)), (1, .int p1), (2, .int p2), (3, .ref o)] := hl
  have hS9 : CallFix p m c cL_setLines 5 s _ wsL_setLines RL := ⟨hx, hb, hml, hown, hts⟩
  refine lv_aload_n hx hb dL_setLines_0 rfl (lv_at hl 3 rfl) ?_
  refine lv_iconst (v := 0) hx hb dL_setLines_1 (by decide) ?_
  refine lv_aload_n hx hb dL_setLines_2 rfl (lv_at hl 0 rfl) ?_
  refine lv_iload_n hx hb dL_setLines_3 rfl (lv_at hl 1 rfl) ?_
  refine lv_iload_n hx hb dL_setLines_4 rfl (lv_at hl 2 rfl) ?_
  have hPC : va_P D vwCl (wC ad cA σ) s.heap := hP.lf
  have hDC : va_D A (wC ad cA σ) := hD.lf
  have hF9 := gFree hDC hS hA
  have hrun := gx_runV (p := p) (e := e) (below := below) (meth := meth) (H := s.heap) (locs := []) (R := (headSpec wsL_setLines ({ frames := 8, cells := 1, slots := 6, locals := 124 } : Room)).room) (A := A) (st0 := [.int p2, .int p1, .ref (ad 0), .int 0, .ref o]) (As := [.int p1, .int p2]) (rest := [.int 0, .ref o]) (Qc := gQXi D (wC ad cA) (tC cA) _ res) hS9 (tyc_T_setLines l D ad cA _ σ p1 p2 _ hl9 hF) (cwV 2 hts gL_setLines_X4_setLines rfl rfl rfl hd_X4_setLines ⟨by decide, by decide⟩) hOK (tH_C cA cO hK) hPC hDC hS hA hNN (ci := 4) (q0 := 0) (N := 12) rfl (wC_0 ad cA σ) rfl hl.1 rfl (Nat.le_of_ble_eq_true rfl) dL_setLines_5 ⟨by decide, by decide⟩
  refine gl_runi (rest2 := .ref (ad 0) :: [.int p1, .int p2]) hrun hDC hS hA (fun E ce q9 τ H locs hres hP1 hD1 hfr hS hce hcv hcl => ?_) (fun r τ H locs hres hP1 hD1 hfr hS => ?_)
  · obtain ⟨k, rfl, rfl⟩ := hres
    obtain ⟨hP, hD⟩ := gl_join hP hD hfr hF9 hP1 hD1
    have hP : va_P D vwCl (wH ad cA o cO τ g) H := hP
    have hD : va_D A (wH ad cA o cO τ g) := hD
    have hc : (k = 0 ∧ kk = 1) ∨ (k = 1 ∧ kk = 2) := by
      rcases k with _ | _ | _ | k
      · revert hk; simp [kOf, List.idxOf?, List.findIdx?, List.findIdx?.go]; try omega
      · revert hk; simp [kOf, List.idxOf?, List.findIdx?, List.findIdx?.go]; try omega
      · revert hk; simp [kOf, List.idxOf?, List.findIdx?, List.findIdx?.go]; try omega
      · exfalso; revert hk; simp [kOf, List.idxOf?, List.findIdx?, List.findIdx?.go]
    rcases hc with ⟨rfl, rfl⟩ | ⟨rfl, rfl⟩
    · refine vx_catch (own := RL) (name := exn 1) hown (tableOf []) (⟨0, 10, 13, 13⟩ : ExceptionTableEntry) (tableOf [(0, 10, 17, 15)]) (by rw [htab]; rfl) (fun z hz => nomatch hz) (by decide) (by decide) (hCL _ (List.mem_of_getElem? (i := 0) rfl) _) (gNw_use hOK.2.2.1 (List.mem_of_getElem? (i := 0) rfl)) hce hcv hcl ?_
      refine lv_astore (lv' := [(4, .ref q9), (0, .ref (ad 0)), (1, .int p1), (2, .int p2), (3, .ref o)]) hx hb dL_setLines_13 hl (by decide) rfl (fun ls hl => ?_)
      refine lv_iconst (v := 1) hx hb dL_setLines_15 (by decide) ?_
      exact W.iret (v := 1) hx hb hr (fun t ht hW => ⟨⟨1, (τ, g), rfl, ⟨rfl, rfl, fun h => absurd h (by decide)⟩, by rw [ht]; exact hP, va_K.moved hW.alike hK, hD⟩, hS.F ht⟩) hS.2.2 dL_setLines_16 hlocks
    · refine vx_catch (own := RL) (name := exn 2) hown (tableOf [(0, 10, 13, 13)]) (⟨0, 10, 17, 15⟩ : ExceptionTableEntry) (tableOf []) (by rw [htab]; rfl) (fun z hz => by obtain rfl := List.mem_singleton.mp hz; exact Or.inr ⟨by decide, _, hCL _ (List.mem_of_getElem? (i := 0) rfl) _, hNC (exn 2, exn 1) (List.mem_of_getElem? (i := 2) rfl)⟩) (by decide) (by decide) (hCL _ (List.mem_of_getElem? (i := 1) rfl) _) (gNw_use hOK.2.2.1 (List.mem_of_getElem? (i := 1) rfl)) hce hcv hcl ?_
      refine lv_astore (lv' := [(4, .ref q9), (0, .ref (ad 0)), (1, .int p1), (2, .int p2), (3, .ref o)]) hx hb dL_setLines_17 hl (by decide) rfl (fun ls hl => ?_)
      refine lv_iconst (v := 2) hx hb dL_setLines_19 (by decide) ?_
      exact W.iret (v := 2) hx hb hr (fun t ht hW => ⟨⟨2, (τ, g), rfl, ⟨rfl, rfl, fun h => absurd h (by decide)⟩, by rw [ht]; exact hP, va_K.moved hW.alike hK, hD⟩, hS.F ht⟩) hS.2.2 dL_setLines_20 hlocks
  · subst hres
    obtain ⟨hP, hD⟩ := gl_join hP hD hfr hF9 hP1 hD1
    have hP : va_P D vwCl (wH ad cA o cO τ g) H := hP
    have hD : va_D A (wH ad cA o cO τ g) := hD
    obtain rfl : kk = 0 := by revert hk; simp [kOf]; try omega
    refine lv_i2l (v := r.toInt64) hx hb dL_setLines_8 rfl ?_
    refine va_last hx hb hK hP hD hS 32 26 (wH_32 ad cA o cO τ g) (tH_26 cA cO) vp_in_01 dL_setLines_9 (fun H locs hP hD hS => ?_)
    rw [wHs_32, sb_cl0] at hP hD
    refine lv_goto (tgt := 21) hx hb dL_setLines_10 (by decide) ?_
    refine lv_iconst (v := 0) hx hb dL_setLines_21 (by decide) ?_
    refine W.widen (k := 1) (n := 6) (by omega) (by omega) ?_
    exact W.iret (v := 0) hx hb hr (fun t ht hW => ⟨⟨0, (τ, vp_updL g 0 r.toInt64), rfl, ⟨rfl, rfl, fun _ => rfl⟩, by rw [ht]; exact hP, va_K.moved hW.alike hK, hD⟩, hS.F ht⟩) hS.2.2 dL_setLines_22 hlocks
set_option maxHeartbeats 4000000 in
set_option maxRecDepth 100000 in
theorem tyh_pass (l : Launch) (hl9 : l.stackTraces = false) (D : va_G) (ad : Nat → Nat) (cA : Nat → ClassId) (o : Nat) (cO : ClassId) (sz : Nat) (σ : tyS) (g : Nat → Int64) (p1 : Int32) (res : tyX) (kk : Nat) (hF : tyf_T_pass σ p1 = some res) (hk : kOf [1, 2] res.1 = some kk) : hMet l yL_pass wsL_pass ({ frames := 7, cells := 1, slots := 6, locals := 103 } : Room) D ad cA o cO [.ref (ad 0), .int p1, .ref o] sz σ g kk res.2.1.toInt64 res.2.2 := by
  refine ty_ofWH (cc := cL_pass) (maxL := 4) (ret := (some .int)) (hh := [(0, 9, 12, 13), (0, 9, 15, 15)]) (by decide) rfl ?_
  intro p e s m args below meth c s₁ B hml hv
  obtain ⟨rfl, hsz, hP, hK, hD0, hNN, hOK, hNC, hCL⟩ := hv
  have hx := B.exec
  have hb := B.bytes
  have hr := B.returns
  have hts := atoms_spec (ws := wsL_pass) B.pre
  have hown : s.vm.findClass RL = some m.cls := findClass_of_methodNamed B.named
  have hlocks := B.notSynchronized
  have htab : c.exceptionTable.toList = tableOf [(0, 9, 12, 13), (0, 9, 15, 15)] := vx_table (x := yL_pass) B (hts _ List.mem_cons_self)
  subst hsz
  have hD := hD0.self (sz := s.heap.size)
  generalize hAe : va_A (wH ad cA o cO σ g) s.heap.size = A at hD hOK ⊢
  have hA : ∀ q : Nat, s.heap.size ≤ q → A q := fun q h => by rw [← hAe]; exact Or.inr h
  clear hAe hD0
  have hS : va_S A s.heap s.heap [] := va_S.rf
  have hl := lv_entry ([.ref (ad 0), .int p1, .ref o]) (n := 4) (Nat.le_of_ble_eq_true rfl)
  rw [lg_entry_eq]
  generalize (lg_sl ([.ref (ad 0), .int p1, .ref o]) ++ List.replicate (4 - (lg_sl ([.ref (ad 0), .int p1, .ref o])).length) Slot.unset).toArray = ls at hl ⊢
  have hl : lv_has ls 4 [(0, .ref (ad 0)), (1, .int p1), (2, .ref o)] := hl
  have hS9 : CallFix p m c cL_pass 4 s _ wsL_pass RL := ⟨hx, hb, hml, hown, hts⟩
  refine lv_aload_n hx hb dL_pass_0 rfl (lv_at hl 2 rfl) ?_
  refine lv_iconst (v := 0) hx hb dL_pass_1 (by decide) ?_
  refine lv_aload_n hx hb dL_pass_2 rfl (lv_at hl 0 rfl) ?_
  refine lv_iload_n hx hb dL_pass_3 rfl (lv_at hl 1 rfl) ?_
  have hPC : va_P D vwCl (wC ad cA σ) s.heap := hP.lf
  have hDC : va_D A (wC ad cA σ) := hD.lf
  have hF9 := gFree hDC hS hA
  have hrun := gx_runV (p := p) (e := e) (below := below) (meth := meth) (H := s.heap) (locs := []) (R := (headSpec wsL_pass ({ frames := 7, cells := 1, slots := 6, locals := 103 } : Room)).room) (A := A) (st0 := [.int p1, .ref (ad 0), .int 0, .ref o]) (As := [.int p1]) (rest := [.int 0, .ref o]) (Qc := gQXi D (wC ad cA) (tC cA) _ res) hS9 (tyc_T_pass l D ad cA _ σ p1 _ hl9 hF) (cwV 1 hts gL_pass_X4_pass rfl rfl rfl hd_X4_pass ⟨by decide, by decide⟩) hOK (tH_C cA cO hK) hPC hDC hS hA hNN (ci := 4) (q0 := 0) (N := 12) rfl (wC_0 ad cA σ) rfl hl.1 rfl (Nat.le_of_ble_eq_true rfl) dL_pass_4 ⟨by decide, by decide⟩
  refine gl_runi (rest2 := .ref (ad 0) :: [.int p1]) hrun hDC hS hA (fun E ce q9 τ H locs hres hP1 hD1 hfr hS hce hcv hcl => ?_) (fun r τ H locs hres hP1 hD1 hfr hS => ?_)
  · obtain ⟨k, rfl, rfl⟩ := hres
    obtain ⟨hP, hD⟩ := gl_join hP hD hfr hF9 hP1 hD1
    have hP : va_P D vwCl (wH ad cA o cO τ g) H := hP
    have hD : va_D A (wH ad cA o cO τ g) := hD
    have hc : (k = 0 ∧ kk = 1) ∨ (k = 1 ∧ kk = 2) := by
      rcases k with _ | _ | _ | k
      · revert hk; simp [kOf, List.idxOf?, List.findIdx?, List.findIdx?.go]; try omega
      · revert hk; simp [kOf, List.idxOf?, List.findIdx?, List.findIdx?.go]; try omega
      · revert hk; simp [kOf, List.idxOf?, List.findIdx?, List.findIdx?.go]; try omega
      · exfalso; revert hk; simp [kOf, List.idxOf?, List.findIdx?, List.findIdx?.go]
    rcases hc with ⟨rfl, rfl⟩ | ⟨rfl, rfl⟩
    · refine vx_catch (own := RL) (name := exn 1) hown (tableOf []) (⟨0, 9, 12, 13⟩ : ExceptionTableEntry) (tableOf [(0, 9, 15, 15)]) (by rw [htab]; rfl) (fun z hz => nomatch hz) (by decide) (by decide) (hCL _ (List.mem_of_getElem? (i := 0) rfl) _) (gNw_use hOK.2.2.1 (List.mem_of_getElem? (i := 0) rfl)) hce hcv hcl ?_
      refine lv_astore_n (lv' := [(3, .ref q9), (0, .ref (ad 0)), (1, .int p1), (2, .ref o)]) hx hb dL_pass_12 rfl hl (by decide) rfl (fun ls hl => ?_)
      refine lv_iconst (v := 1) hx hb dL_pass_13 (by decide) ?_
      exact W.iret (v := 1) hx hb hr (fun t ht hW => ⟨⟨1, (τ, g), rfl, ⟨rfl, rfl, fun h => absurd h (by decide)⟩, by rw [ht]; exact hP, va_K.moved hW.alike hK, hD⟩, hS.F ht⟩) hS.2.2 dL_pass_14 hlocks
    · refine vx_catch (own := RL) (name := exn 2) hown (tableOf [(0, 9, 12, 13)]) (⟨0, 9, 15, 15⟩ : ExceptionTableEntry) (tableOf []) (by rw [htab]; rfl) (fun z hz => by obtain rfl := List.mem_singleton.mp hz; exact Or.inr ⟨by decide, _, hCL _ (List.mem_of_getElem? (i := 0) rfl) _, hNC (exn 2, exn 1) (List.mem_of_getElem? (i := 2) rfl)⟩) (by decide) (by decide) (hCL _ (List.mem_of_getElem? (i := 1) rfl) _) (gNw_use hOK.2.2.1 (List.mem_of_getElem? (i := 1) rfl)) hce hcv hcl ?_
      refine lv_astore_n (lv' := [(3, .ref q9), (0, .ref (ad 0)), (1, .int p1), (2, .ref o)]) hx hb dL_pass_15 rfl hl (by decide) rfl (fun ls hl => ?_)
      refine lv_iconst (v := 2) hx hb dL_pass_16 (by decide) ?_
      exact W.iret (v := 2) hx hb hr (fun t ht hW => ⟨⟨2, (τ, g), rfl, ⟨rfl, rfl, fun h => absurd h (by decide)⟩, by rw [ht]; exact hP, va_K.moved hW.alike hK, hD⟩, hS.F ht⟩) hS.2.2 dL_pass_17 hlocks
  · subst hres
    obtain ⟨hP, hD⟩ := gl_join hP hD hfr hF9 hP1 hD1
    have hP : va_P D vwCl (wH ad cA o cO τ g) H := hP
    have hD : va_D A (wH ad cA o cO τ g) := hD
    obtain rfl : kk = 0 := by revert hk; simp [kOf]; try omega
    refine lv_i2l (v := r.toInt64) hx hb dL_pass_7 rfl ?_
    refine va_last hx hb hK hP hD hS 32 26 (wH_32 ad cA o cO τ g) (tH_26 cA cO) vp_in_01 dL_pass_8 (fun H locs hP hD hS => ?_)
    rw [wHs_32, sb_cl0] at hP hD
    refine lv_goto (tgt := 18) hx hb dL_pass_9 (by decide) ?_
    refine lv_iconst (v := 0) hx hb dL_pass_18 (by decide) ?_
    refine W.widen (k := 1) (n := 6) (by omega) (by omega) ?_
    exact W.iret (v := 0) hx hb hr (fun t ht hW => ⟨⟨0, (τ, vp_updL g 0 r.toInt64), rfl, ⟨rfl, rfl, fun _ => rfl⟩, by rw [ht]; exact hP, va_K.moved hW.alike hK, hD⟩, hS.F ht⟩) hS.2.2 dL_pass_19 hlocks
set_option maxHeartbeats 4000000 in
set_option maxRecDepth 100000 in
theorem tyh_state (l : Launch) (hl9 : l.stackTraces = false) (D : va_G) (ad : Nat → Nat) (cA : Nat → ClassId) (o : Nat) (cO : ClassId) (sz : Nat) (σ : tyS) (g : Nat → Int64) (p1 : Int32) (res : tyX) (kk : Nat) (hF : tyf_T_state σ p1 = some res) (hk : kOf [3] res.1 = some kk) : hMet l yL_state wsL_state ({ frames := 8, cells := 1, slots := 6, locals := 124 } : Room) D ad cA o cO [.ref (ad 0), .int p1, .ref o] sz σ g kk res.2.1.toInt64 res.2.2 := by
  refine ty_ofWH (cc := cL_state) (maxL := 4) (ret := (some .int)) (hh := [(0, 9, 12, 36)]) (by decide) rfl ?_
  intro p e s m args below meth c s₁ B hml hv
  obtain ⟨rfl, hsz, hP, hK, hD0, hNN, hOK, hNC, hCL⟩ := hv
  have hx := B.exec
  have hb := B.bytes
  have hr := B.returns
  have hts := atoms_spec (ws := wsL_state) B.pre
  have hown : s.vm.findClass RL = some m.cls := findClass_of_methodNamed B.named
  have hlocks := B.notSynchronized
  have htab : c.exceptionTable.toList = tableOf [(0, 9, 12, 36)] := vx_table (x := yL_state) B (hts _ List.mem_cons_self)
  subst hsz
  have hD := hD0.self (sz := s.heap.size)
  generalize hAe : va_A (wH ad cA o cO σ g) s.heap.size = A at hD hOK ⊢
  have hA : ∀ q : Nat, s.heap.size ≤ q → A q := fun q h => by rw [← hAe]; exact Or.inr h
  clear hAe hD0
  have hS : va_S A s.heap s.heap [] := va_S.rf
  have hl := lv_entry ([.ref (ad 0), .int p1, .ref o]) (n := 4) (Nat.le_of_ble_eq_true rfl)
  rw [lg_entry_eq]
  generalize (lg_sl ([.ref (ad 0), .int p1, .ref o]) ++ List.replicate (4 - (lg_sl ([.ref (ad 0), .int p1, .ref o])).length) Slot.unset).toArray = ls at hl ⊢
  have hl : lv_has ls 4 [(0, .ref (ad 0)), (1, .int p1), (2, .ref o)] := hl
  have hS9 : CallFix p m c cL_state 4 s _ wsL_state RL := ⟨hx, hb, hml, hown, hts⟩
  refine lv_aload_n hx hb dL_state_0 rfl (lv_at hl 2 rfl) ?_
  refine lv_iconst (v := 0) hx hb dL_state_1 (by decide) ?_
  refine lv_aload_n hx hb dL_state_2 rfl (lv_at hl 0 rfl) ?_
  refine lv_iload_n hx hb dL_state_3 rfl (lv_at hl 1 rfl) ?_
  have hPC : va_P D vwCl (wC ad cA σ) s.heap := hP.lf
  have hDC : va_D A (wC ad cA σ) := hD.lf
  have hF9 := gFree hDC hS hA
  have hrun := gx_runV (p := p) (e := e) (below := below) (meth := meth) (H := s.heap) (locs := []) (R := (headSpec wsL_state ({ frames := 8, cells := 1, slots := 6, locals := 124 } : Room)).room) (A := A) (st0 := [.int p1, .ref (ad 0), .int 0, .ref o]) (As := [.int p1]) (rest := [.int 0, .ref o]) (Qc := gQXi D (wC ad cA) (tC cA) _ res) hS9 (tyc_T_state l D ad cA _ σ p1 _ hl9 hF) (cwV 1 hts gL_state_X4_state rfl rfl rfl hd_X4_state ⟨by decide, by decide⟩) hOK (tH_C cA cO hK) hPC hDC hS hA hNN (ci := 4) (q0 := 0) (N := 12) rfl (wC_0 ad cA σ) rfl hl.1 rfl (Nat.le_of_ble_eq_true rfl) dL_state_4 ⟨by decide, by decide⟩
  refine gl_runi (rest2 := .ref (ad 0) :: [.int p1]) hrun hDC hS hA (fun E ce q9 τ H locs hres hP1 hD1 hfr hS hce hcv hcl => ?_) (fun r τ H locs hres hP1 hD1 hfr hS => ?_)
  · obtain ⟨k, rfl, rfl⟩ := hres
    obtain ⟨hP, hD⟩ := gl_join hP hD hfr hF9 hP1 hD1
    have hP : va_P D vwCl (wH ad cA o cO τ g) H := hP
    have hD : va_D A (wH ad cA o cO τ g) := hD
    have hc : (k = 2 ∧ kk = 1) := by
      rcases k with _ | _ | _ | k
      · revert hk; simp [kOf, List.idxOf?, List.findIdx?, List.findIdx?.go]; try omega
      · revert hk; simp [kOf, List.idxOf?, List.findIdx?, List.findIdx?.go]; try omega
      · revert hk; simp [kOf, List.idxOf?, List.findIdx?, List.findIdx?.go]; try omega
      · exfalso; revert hk; simp [kOf, List.idxOf?, List.findIdx?, List.findIdx?.go]
    obtain ⟨rfl, rfl⟩ := hc
    refine vx_catch (own := RL) (name := exn 3) hown (tableOf []) (⟨0, 9, 12, 36⟩ : ExceptionTableEntry) (tableOf []) (by rw [htab]; rfl) (fun z hz => nomatch hz) (by decide) (by decide) (hCL _ (List.mem_of_getElem? (i := 2) rfl) _) (gNw_use hOK.2.2.1 (List.mem_of_getElem? (i := 2) rfl)) hce hcv hcl ?_
    refine lv_astore_n (lv' := [(3, .ref q9), (0, .ref (ad 0)), (1, .int p1), (2, .ref o)]) hx hb dL_state_12 rfl hl (by decide) rfl (fun ls hl => ?_)
    refine lv_iconst (v := 1) hx hb dL_state_13 (by decide) ?_
    exact W.iret (v := 1) hx hb hr (fun t ht hW => ⟨⟨1, (τ, g), rfl, ⟨rfl, rfl, fun h => absurd h (by decide)⟩, by rw [ht]; exact hP, va_K.moved hW.alike hK, hD⟩, hS.F ht⟩) hS.2.2 dL_state_14 hlocks
  · subst hres
    obtain ⟨hP, hD⟩ := gl_join hP hD hfr hF9 hP1 hD1
    have hP : va_P D vwCl (wH ad cA o cO τ g) H := hP
    have hD : va_D A (wH ad cA o cO τ g) := hD
    obtain rfl : kk = 0 := by revert hk; simp [kOf]; try omega
    refine lv_i2l (v := r.toInt64) hx hb dL_state_7 rfl ?_
    refine va_last hx hb hK hP hD hS 32 26 (wH_32 ad cA o cO τ g) (tH_26 cA cO) vp_in_01 dL_state_8 (fun H locs hP hD hS => ?_)
    rw [wHs_32, sb_cl0] at hP hD
    refine lv_goto (tgt := 15) hx hb dL_state_9 (by decide) ?_
    refine lv_iconst (v := 0) hx hb dL_state_15 (by decide) ?_
    refine W.widen (k := 1) (n := 6) (by omega) (by omega) ?_
    exact W.iret (v := 0) hx hb hr (fun t ht hW => ⟨⟨0, (τ, vp_updL g 0 r.toInt64), rfl, ⟨rfl, rfl, fun _ => rfl⟩, by rw [ht]; exact hP, va_K.moved hW.alike hK, hD⟩, hS.F ht⟩) hS.2.2 dL_state_16 hlocks
set_option maxHeartbeats 4000000 in
set_option maxRecDepth 100000 in
theorem tyh_wagons (l : Launch) (hl9 : l.stackTraces = false) (D : va_G) (ad : Nat → Nat) (cA : Nat → ClassId) (o : Nat) (cO : ClassId) (sz : Nat) (σ : tyS) (g : Nat → Int64) (p1 : Int32) (res : tyX) (kk : Nat) (hF : tyf_T_wagons σ p1 = some res) (hk : kOf [3] res.1 = some kk) : hMet l yL_wagons wsL_wagons ({ frames := 8, cells := 1, slots := 6, locals := 124 } : Room) D ad cA o cO [.ref (ad 0), .int p1, .ref o] sz σ g kk res.2.1.toInt64 res.2.2 := by
  refine ty_ofWH (cc := cL_wagons) (maxL := 4) (ret := (some .int)) (hh := [(0, 9, 12, 36)]) (by decide) rfl ?_
  intro p e s m args below meth c s₁ B hml hv
  obtain ⟨rfl, hsz, hP, hK, hD0, hNN, hOK, hNC, hCL⟩ := hv
  have hx := B.exec
  have hb := B.bytes
  have hr := B.returns
  have hts := atoms_spec (ws := wsL_wagons) B.pre
  have hown : s.vm.findClass RL = some m.cls := findClass_of_methodNamed B.named
  have hlocks := B.notSynchronized
  have htab : c.exceptionTable.toList = tableOf [(0, 9, 12, 36)] := vx_table (x := yL_wagons) B (hts _ List.mem_cons_self)
  subst hsz
  have hD := hD0.self (sz := s.heap.size)
  generalize hAe : va_A (wH ad cA o cO σ g) s.heap.size = A at hD hOK ⊢
  have hA : ∀ q : Nat, s.heap.size ≤ q → A q := fun q h => by rw [← hAe]; exact Or.inr h
  clear hAe hD0
  have hS : va_S A s.heap s.heap [] := va_S.rf
  have hl := lv_entry ([.ref (ad 0), .int p1, .ref o]) (n := 4) (Nat.le_of_ble_eq_true rfl)
  rw [lg_entry_eq]
  generalize (lg_sl ([.ref (ad 0), .int p1, .ref o]) ++ List.replicate (4 - (lg_sl ([.ref (ad 0), .int p1, .ref o])).length) Slot.unset).toArray = ls at hl ⊢
  have hl : lv_has ls 4 [(0, .ref (ad 0)), (1, .int p1), (2, .ref o)] := hl
  have hS9 : CallFix p m c cL_wagons 4 s _ wsL_wagons RL := ⟨hx, hb, hml, hown, hts⟩
  refine lv_aload_n hx hb dL_wagons_0 rfl (lv_at hl 2 rfl) ?_
  refine lv_iconst (v := 0) hx hb dL_wagons_1 (by decide) ?_
  refine lv_aload_n hx hb dL_wagons_2 rfl (lv_at hl 0 rfl) ?_
  refine lv_iload_n hx hb dL_wagons_3 rfl (lv_at hl 1 rfl) ?_
  have hPC : va_P D vwCl (wC ad cA σ) s.heap := hP.lf
  have hDC : va_D A (wC ad cA σ) := hD.lf
  have hF9 := gFree hDC hS hA
  have hrun := gx_runV (p := p) (e := e) (below := below) (meth := meth) (H := s.heap) (locs := []) (R := (headSpec wsL_wagons ({ frames := 8, cells := 1, slots := 6, locals := 124 } : Room)).room) (A := A) (st0 := [.int p1, .ref (ad 0), .int 0, .ref o]) (As := [.int p1]) (rest := [.int 0, .ref o]) (Qc := gQXi D (wC ad cA) (tC cA) _ res) hS9 (tyc_T_wagons l D ad cA _ σ p1 _ hl9 hF) (cwV 1 hts gL_wagons_X4_wagons rfl rfl rfl hd_X4_wagons ⟨by decide, by decide⟩) hOK (tH_C cA cO hK) hPC hDC hS hA hNN (ci := 4) (q0 := 0) (N := 12) rfl (wC_0 ad cA σ) rfl hl.1 rfl (Nat.le_of_ble_eq_true rfl) dL_wagons_4 ⟨by decide, by decide⟩
  refine gl_runi (rest2 := .ref (ad 0) :: [.int p1]) hrun hDC hS hA (fun E ce q9 τ H locs hres hP1 hD1 hfr hS hce hcv hcl => ?_) (fun r τ H locs hres hP1 hD1 hfr hS => ?_)
  · obtain ⟨k, rfl, rfl⟩ := hres
    obtain ⟨hP, hD⟩ := gl_join hP hD hfr hF9 hP1 hD1
    have hP : va_P D vwCl (wH ad cA o cO τ g) H := hP
    have hD : va_D A (wH ad cA o cO τ g) := hD
    have hc : (k = 2 ∧ kk = 1) := by
      rcases k with _ | _ | _ | k
      · revert hk; simp [kOf, List.idxOf?, List.findIdx?, List.findIdx?.go]; try omega
      · revert hk; simp [kOf, List.idxOf?, List.findIdx?, List.findIdx?.go]; try omega
      · revert hk; simp [kOf, List.idxOf?, List.findIdx?, List.findIdx?.go]; try omega
      · exfalso; revert hk; simp [kOf, List.idxOf?, List.findIdx?, List.findIdx?.go]
    obtain ⟨rfl, rfl⟩ := hc
    refine vx_catch (own := RL) (name := exn 3) hown (tableOf []) (⟨0, 9, 12, 36⟩ : ExceptionTableEntry) (tableOf []) (by rw [htab]; rfl) (fun z hz => nomatch hz) (by decide) (by decide) (hCL _ (List.mem_of_getElem? (i := 2) rfl) _) (gNw_use hOK.2.2.1 (List.mem_of_getElem? (i := 2) rfl)) hce hcv hcl ?_
    refine lv_astore_n (lv' := [(3, .ref q9), (0, .ref (ad 0)), (1, .int p1), (2, .ref o)]) hx hb dL_wagons_12 rfl hl (by decide) rfl (fun ls hl => ?_)
    refine lv_iconst (v := 1) hx hb dL_wagons_13 (by decide) ?_
    exact W.iret (v := 1) hx hb hr (fun t ht hW => ⟨⟨1, (τ, g), rfl, ⟨rfl, rfl, fun h => absurd h (by decide)⟩, by rw [ht]; exact hP, va_K.moved hW.alike hK, hD⟩, hS.F ht⟩) hS.2.2 dL_wagons_14 hlocks
  · subst hres
    obtain ⟨hP, hD⟩ := gl_join hP hD hfr hF9 hP1 hD1
    have hP : va_P D vwCl (wH ad cA o cO τ g) H := hP
    have hD : va_D A (wH ad cA o cO τ g) := hD
    obtain rfl : kk = 0 := by revert hk; simp [kOf]; try omega
    refine lv_i2l (v := r.toInt64) hx hb dL_wagons_7 rfl ?_
    refine va_last hx hb hK hP hD hS 32 26 (wH_32 ad cA o cO τ g) (tH_26 cA cO) vp_in_01 dL_wagons_8 (fun H locs hP hD hS => ?_)
    rw [wHs_32, sb_cl0] at hP hD
    refine lv_goto (tgt := 15) hx hb dL_wagons_9 (by decide) ?_
    refine lv_iconst (v := 0) hx hb dL_wagons_15 (by decide) ?_
    refine W.widen (k := 1) (n := 6) (by omega) (by omega) ?_
    exact W.iret (v := 0) hx hb hr (fun t ht hW => ⟨⟨0, (τ, vp_updL g 0 r.toInt64), rfl, ⟨rfl, rfl, fun _ => rfl⟩, by rw [ht]; exact hP, va_K.moved hW.alike hK, hD⟩, hS.F ht⟩) hS.2.2 dL_wagons_16 hlocks
set_option maxHeartbeats 4000000 in
set_option maxRecDepth 100000 in
theorem tyh_wagonOf (l : Launch) (hl9 : l.stackTraces = false) (D : va_G) (ad : Nat → Nat) (cA : Nat → ClassId) (o : Nat) (cO : ClassId) (sz : Nat) (σ : tyS) (g : Nat → Int64) (p1 : Int32) (p2 : Int32) (res : tyX) (kk : Nat) (hF : tyf_T_wagonOf σ p1 p2 = some res) (hk : kOf [3] res.1 = some kk) : hMet l yL_wagonOf wsL_wagonOf ({ frames := 8, cells := 1, slots := 6, locals := 125 } : Room) D ad cA o cO [.ref (ad 0), .int p1, .int p2, .ref o] sz σ g kk res.2.1.toInt64 res.2.2 := by
  refine ty_ofWH (cc := cL_wagonOf) (maxL := 5) (ret := (some .int)) (hh := [(0, 10, 13, 36)]) (by decide) rfl ?_
  intro p e s m args below meth c s₁ B hml hv
  obtain ⟨rfl, hsz, hP, hK, hD0, hNN, hOK, hNC, hCL⟩ := hv
  have hx := B.exec
  have hb := B.bytes
  have hr := B.returns
  have hts := atoms_spec (ws := wsL_wagonOf) B.pre
  have hown : s.vm.findClass RL = some m.cls := findClass_of_methodNamed B.named
  have hlocks := B.notSynchronized
  have htab : c.exceptionTable.toList = tableOf [(0, 10, 13, 36)] := vx_table (x := yL_wagonOf) B (hts _ List.mem_cons_self)
  subst hsz
  have hD := hD0.self (sz := s.heap.size)
  generalize hAe : va_A (wH ad cA o cO σ g) s.heap.size = A at hD hOK ⊢
  have hA : ∀ q : Nat, s.heap.size ≤ q → A q := fun q h => by rw [← hAe]; exact Or.inr h
  clear hAe hD0
  have hS : va_S A s.heap s.heap [] := va_S.rf
  have hl := lv_entry ([.ref (ad 0), .int p1, .int p2, .ref o]) (n := 5) (Nat.le_of_ble_eq_true rfl)
  rw [lg_entry_eq]
  generalize (lg_sl ([.ref (ad 0), .int p1, .int p2, .ref o]) ++ List.replicate (5 - (lg_sl ([.ref (ad 0), .int p1, .int p2, .ref o])).length) Slot.unset).toArray = ls at hl ⊢
  have hl : lv_has ls 5 [(0, .ref (ad 0)), (1, .int p1), (2, .int p2), (3, .ref o)] := hl
  have hS9 : CallFix p m c cL_wagonOf 5 s _ wsL_wagonOf RL := ⟨hx, hb, hml, hown, hts⟩
  refine lv_aload_n hx hb dL_wagonOf_0 rfl (lv_at hl 3 rfl) ?_
  refine lv_iconst (v := 0) hx hb dL_wagonOf_1 (by decide) ?_
  refine lv_aload_n hx hb dL_wagonOf_2 rfl (lv_at hl 0 rfl) ?_
  refine lv_iload_n hx hb dL_wagonOf_3 rfl (lv_at hl 1 rfl) ?_
  refine lv_iload_n hx hb dL_wagonOf_4 rfl (lv_at hl 2 rfl) ?_
  have hPC : va_P D vwCl (wC ad cA σ) s.heap := hP.lf
  have hDC : va_D A (wC ad cA σ) := hD.lf
  have hF9 := gFree hDC hS hA
  have hrun := gx_runV (p := p) (e := e) (below := below) (meth := meth) (H := s.heap) (locs := []) (R := (headSpec wsL_wagonOf ({ frames := 8, cells := 1, slots := 6, locals := 125 } : Room)).room) (A := A) (st0 := [.int p2, .int p1, .ref (ad 0), .int 0, .ref o]) (As := [.int p1, .int p2]) (rest := [.int 0, .ref o]) (Qc := gQXi D (wC ad cA) (tC cA) _ res) hS9 (tyc_T_wagonOf l D ad cA _ σ p1 p2 _ hl9 hF) (cwV 2 hts gL_wagonOf_X4_wagonOf rfl rfl rfl hd_X4_wagonOf ⟨by decide, by decide⟩) hOK (tH_C cA cO hK) hPC hDC hS hA hNN (ci := 4) (q0 := 0) (N := 12) rfl (wC_0 ad cA σ) rfl hl.1 rfl (Nat.le_of_ble_eq_true rfl) dL_wagonOf_5 ⟨by decide, by decide⟩
  refine gl_runi (rest2 := .ref (ad 0) :: [.int p1, .int p2]) hrun hDC hS hA (fun E ce q9 τ H locs hres hP1 hD1 hfr hS hce hcv hcl => ?_) (fun r τ H locs hres hP1 hD1 hfr hS => ?_)
  · obtain ⟨k, rfl, rfl⟩ := hres
    obtain ⟨hP, hD⟩ := gl_join hP hD hfr hF9 hP1 hD1
    have hP : va_P D vwCl (wH ad cA o cO τ g) H := hP
    have hD : va_D A (wH ad cA o cO τ g) := hD
    have hc : (k = 2 ∧ kk = 1) := by
      rcases k with _ | _ | _ | k
      · revert hk; simp [kOf, List.idxOf?, List.findIdx?, List.findIdx?.go]; try omega
      · revert hk; simp [kOf, List.idxOf?, List.findIdx?, List.findIdx?.go]; try omega
      · revert hk; simp [kOf, List.idxOf?, List.findIdx?, List.findIdx?.go]; try omega
      · exfalso; revert hk; simp [kOf, List.idxOf?, List.findIdx?, List.findIdx?.go]
    obtain ⟨rfl, rfl⟩ := hc
    refine vx_catch (own := RL) (name := exn 3) hown (tableOf []) (⟨0, 10, 13, 36⟩ : ExceptionTableEntry) (tableOf []) (by rw [htab]; rfl) (fun z hz => nomatch hz) (by decide) (by decide) (hCL _ (List.mem_of_getElem? (i := 2) rfl) _) (gNw_use hOK.2.2.1 (List.mem_of_getElem? (i := 2) rfl)) hce hcv hcl ?_
    refine lv_astore (lv' := [(4, .ref q9), (0, .ref (ad 0)), (1, .int p1), (2, .int p2), (3, .ref o)]) hx hb dL_wagonOf_13 hl (by decide) rfl (fun ls hl => ?_)
    refine lv_iconst (v := 1) hx hb dL_wagonOf_15 (by decide) ?_
    exact W.iret (v := 1) hx hb hr (fun t ht hW => ⟨⟨1, (τ, g), rfl, ⟨rfl, rfl, fun h => absurd h (by decide)⟩, by rw [ht]; exact hP, va_K.moved hW.alike hK, hD⟩, hS.F ht⟩) hS.2.2 dL_wagonOf_16 hlocks
  · subst hres
    obtain ⟨hP, hD⟩ := gl_join hP hD hfr hF9 hP1 hD1
    have hP : va_P D vwCl (wH ad cA o cO τ g) H := hP
    have hD : va_D A (wH ad cA o cO τ g) := hD
    obtain rfl : kk = 0 := by revert hk; simp [kOf]; try omega
    refine lv_i2l (v := r.toInt64) hx hb dL_wagonOf_8 rfl ?_
    refine va_last hx hb hK hP hD hS 32 26 (wH_32 ad cA o cO τ g) (tH_26 cA cO) vp_in_01 dL_wagonOf_9 (fun H locs hP hD hS => ?_)
    rw [wHs_32, sb_cl0] at hP hD
    refine lv_goto (tgt := 17) hx hb dL_wagonOf_10 (by decide) ?_
    refine lv_iconst (v := 0) hx hb dL_wagonOf_17 (by decide) ?_
    refine W.widen (k := 1) (n := 6) (by omega) (by omega) ?_
    exact W.iret (v := 0) hx hb hr (fun t ht hW => ⟨⟨0, (τ, vp_updL g 0 r.toInt64), rfl, ⟨rfl, rfl, fun _ => rfl⟩, by rw [ht]; exact hP, va_K.moved hW.alike hK, hD⟩, hS.F ht⟩) hS.2.2 dL_wagonOf_18 hlocks
set_option maxHeartbeats 4000000 in
set_option maxRecDepth 100000 in
theorem tyh_lapses (l : Launch) (hl9 : l.stackTraces = false) (D : va_G) (ad : Nat → Nat) (cA : Nat → ClassId) (o : Nat) (cO : ClassId) (sz : Nat) (σ : tyS) (g : Nat → Int64) (p1 : Int32) (res : tyX) (kk : Nat) (hF : tyf_T_lapses σ p1 = some res) (hk : kOf [3, 2] res.1 = some kk) : hMet l yL_lapses wsL_lapses ({ frames := 8, cells := 1, slots := 6, locals := 124 } : Room) D ad cA o cO [.ref (ad 0), .int p1, .ref o] sz σ g kk res.2.1.toInt64 res.2.2 := by
  refine ty_ofWH (cc := cL_lapses) (maxL := 4) (ret := (some .int)) (hh := [(0, 9, 12, 36), (0, 9, 15, 15)]) (by decide) rfl ?_
  intro p e s m args below meth c s₁ B hml hv
  obtain ⟨rfl, hsz, hP, hK, hD0, hNN, hOK, hNC, hCL⟩ := hv
  have hx := B.exec
  have hb := B.bytes
  have hr := B.returns
  have hts := atoms_spec (ws := wsL_lapses) B.pre
  have hown : s.vm.findClass RL = some m.cls := findClass_of_methodNamed B.named
  have hlocks := B.notSynchronized
  have htab : c.exceptionTable.toList = tableOf [(0, 9, 12, 36), (0, 9, 15, 15)] := vx_table (x := yL_lapses) B (hts _ List.mem_cons_self)
  subst hsz
  have hD := hD0.self (sz := s.heap.size)
  generalize hAe : va_A (wH ad cA o cO σ g) s.heap.size = A at hD hOK ⊢
  have hA : ∀ q : Nat, s.heap.size ≤ q → A q := fun q h => by rw [← hAe]; exact Or.inr h
  clear hAe hD0
  have hS : va_S A s.heap s.heap [] := va_S.rf
  have hl := lv_entry ([.ref (ad 0), .int p1, .ref o]) (n := 4) (Nat.le_of_ble_eq_true rfl)
  rw [lg_entry_eq]
  generalize (lg_sl ([.ref (ad 0), .int p1, .ref o]) ++ List.replicate (4 - (lg_sl ([.ref (ad 0), .int p1, .ref o])).length) Slot.unset).toArray = ls at hl ⊢
  have hl : lv_has ls 4 [(0, .ref (ad 0)), (1, .int p1), (2, .ref o)] := hl
  have hS9 : CallFix p m c cL_lapses 4 s _ wsL_lapses RL := ⟨hx, hb, hml, hown, hts⟩
  refine lv_aload_n hx hb dL_lapses_0 rfl (lv_at hl 2 rfl) ?_
  refine lv_iconst (v := 0) hx hb dL_lapses_1 (by decide) ?_
  refine lv_aload_n hx hb dL_lapses_2 rfl (lv_at hl 0 rfl) ?_
  refine lv_iload_n hx hb dL_lapses_3 rfl (lv_at hl 1 rfl) ?_
  have hPC : va_P D vwCl (wC ad cA σ) s.heap := hP.lf
  have hDC : va_D A (wC ad cA σ) := hD.lf
  have hF9 := gFree hDC hS hA
  have hrun := gx_runV (p := p) (e := e) (below := below) (meth := meth) (H := s.heap) (locs := []) (R := (headSpec wsL_lapses ({ frames := 8, cells := 1, slots := 6, locals := 124 } : Room)).room) (A := A) (st0 := [.int p1, .ref (ad 0), .int 0, .ref o]) (As := [.int p1]) (rest := [.int 0, .ref o]) (Qc := gQXi D (wC ad cA) (tC cA) _ res) hS9 (tyc_T_lapses l D ad cA _ σ p1 _ hl9 hF) (cwV 1 hts gL_lapses_X4_lapses rfl rfl rfl hd_X4_lapses ⟨by decide, by decide⟩) hOK (tH_C cA cO hK) hPC hDC hS hA hNN (ci := 4) (q0 := 0) (N := 12) rfl (wC_0 ad cA σ) rfl hl.1 rfl (Nat.le_of_ble_eq_true rfl) dL_lapses_4 ⟨by decide, by decide⟩
  refine gl_runi (rest2 := .ref (ad 0) :: [.int p1]) hrun hDC hS hA (fun E ce q9 τ H locs hres hP1 hD1 hfr hS hce hcv hcl => ?_) (fun r τ H locs hres hP1 hD1 hfr hS => ?_)
  · obtain ⟨k, rfl, rfl⟩ := hres
    obtain ⟨hP, hD⟩ := gl_join hP hD hfr hF9 hP1 hD1
    have hP : va_P D vwCl (wH ad cA o cO τ g) H := hP
    have hD : va_D A (wH ad cA o cO τ g) := hD
    have hc : (k = 2 ∧ kk = 1) ∨ (k = 1 ∧ kk = 2) := by
      rcases k with _ | _ | _ | k
      · revert hk; simp [kOf, List.idxOf?, List.findIdx?, List.findIdx?.go]; try omega
      · revert hk; simp [kOf, List.idxOf?, List.findIdx?, List.findIdx?.go]; try omega
      · revert hk; simp [kOf, List.idxOf?, List.findIdx?, List.findIdx?.go]; try omega
      · exfalso; revert hk; simp [kOf, List.idxOf?, List.findIdx?, List.findIdx?.go]
    rcases hc with ⟨rfl, rfl⟩ | ⟨rfl, rfl⟩
    · refine vx_catch (own := RL) (name := exn 3) hown (tableOf []) (⟨0, 9, 12, 36⟩ : ExceptionTableEntry) (tableOf [(0, 9, 15, 15)]) (by rw [htab]; rfl) (fun z hz => nomatch hz) (by decide) (by decide) (hCL _ (List.mem_of_getElem? (i := 2) rfl) _) (gNw_use hOK.2.2.1 (List.mem_of_getElem? (i := 2) rfl)) hce hcv hcl ?_
      refine lv_astore_n (lv' := [(3, .ref q9), (0, .ref (ad 0)), (1, .int p1), (2, .ref o)]) hx hb dL_lapses_12 rfl hl (by decide) rfl (fun ls hl => ?_)
      refine lv_iconst (v := 1) hx hb dL_lapses_13 (by decide) ?_
      exact W.iret (v := 1) hx hb hr (fun t ht hW => ⟨⟨1, (τ, g), rfl, ⟨rfl, rfl, fun h => absurd h (by decide)⟩, by rw [ht]; exact hP, va_K.moved hW.alike hK, hD⟩, hS.F ht⟩) hS.2.2 dL_lapses_14 hlocks
    · refine vx_catch (own := RL) (name := exn 2) hown (tableOf [(0, 9, 12, 36)]) (⟨0, 9, 15, 15⟩ : ExceptionTableEntry) (tableOf []) (by rw [htab]; rfl) (fun z hz => by obtain rfl := List.mem_singleton.mp hz; exact Or.inr ⟨by decide, _, hCL _ (List.mem_of_getElem? (i := 2) rfl) _, hNC (exn 2, exn 3) (List.mem_of_getElem? (i := 3) rfl)⟩) (by decide) (by decide) (hCL _ (List.mem_of_getElem? (i := 1) rfl) _) (gNw_use hOK.2.2.1 (List.mem_of_getElem? (i := 1) rfl)) hce hcv hcl ?_
      refine lv_astore_n (lv' := [(3, .ref q9), (0, .ref (ad 0)), (1, .int p1), (2, .ref o)]) hx hb dL_lapses_15 rfl hl (by decide) rfl (fun ls hl => ?_)
      refine lv_iconst (v := 2) hx hb dL_lapses_16 (by decide) ?_
      exact W.iret (v := 2) hx hb hr (fun t ht hW => ⟨⟨2, (τ, g), rfl, ⟨rfl, rfl, fun h => absurd h (by decide)⟩, by rw [ht]; exact hP, va_K.moved hW.alike hK, hD⟩, hS.F ht⟩) hS.2.2 dL_lapses_17 hlocks
  · subst hres
    obtain ⟨hP, hD⟩ := gl_join hP hD hfr hF9 hP1 hD1
    have hP : va_P D vwCl (wH ad cA o cO τ g) H := hP
    have hD : va_D A (wH ad cA o cO τ g) := hD
    obtain rfl : kk = 0 := by revert hk; simp [kOf]; try omega
    refine lv_i2l (v := r.toInt64) hx hb dL_lapses_7 rfl ?_
    refine va_last hx hb hK hP hD hS 32 26 (wH_32 ad cA o cO τ g) (tH_26 cA cO) vp_in_01 dL_lapses_8 (fun H locs hP hD hS => ?_)
    rw [wHs_32, sb_cl0] at hP hD
    refine lv_goto (tgt := 18) hx hb dL_lapses_9 (by decide) ?_
    refine lv_iconst (v := 0) hx hb dL_lapses_18 (by decide) ?_
    refine W.widen (k := 1) (n := 6) (by omega) (by omega) ?_
    exact W.iret (v := 0) hx hb hr (fun t ht hW => ⟨⟨0, (τ, vp_updL g 0 r.toInt64), rfl, ⟨rfl, rfl, fun _ => rfl⟩, by rw [ht]; exact hP, va_K.moved hW.alike hK, hD⟩, hS.F ht⟩) hS.2.2 dL_lapses_19 hlocks
set_option maxHeartbeats 4000000 in
set_option maxRecDepth 100000 in
theorem tyh_depart (l : Launch) (hl9 : l.stackTraces = false) (D : va_G) (ad : Nat → Nat) (cA : Nat → ClassId) (o : Nat) (cO : ClassId) (sz : Nat) (σ : tyS) (g : Nat → Int64) (p1 : Int32) (p2 : Int32) (p3 : Int32) (res : tyX) (kk : Nat) (hF : tyf_T_depart σ p1 p2 p3 = some res) (hk : kOf [1, 2] res.1 = some kk) : hMet l yL_depart wsL_depart ({ frames := 8, cells := 1, slots := 6, locals := 128 } : Room) D ad cA o cO [.ref (ad 0), .int p1, .int p2, .int p3, .ref o] sz σ g kk res.2.1.toInt64 res.2.2 := by
  refine ty_ofWH (cc := cL_depart) (maxL := 6) (ret := (some .int)) (hh := [(0, 12, 15, 13), (0, 12, 19, 15)]) (by decide) rfl ?_
  intro p e s m args below meth c s₁ B hml hv
  obtain ⟨rfl, hsz, hP, hK, hD0, hNN, hOK, hNC, hCL⟩ := hv
  have hx := B.exec
  have hb := B.bytes
  have hr := B.returns
  have hts := atoms_spec (ws := wsL_depart) B.pre
  have hown : s.vm.findClass RL = some m.cls := findClass_of_methodNamed B.named
  have hlocks := B.notSynchronized
  have htab : c.exceptionTable.toList = tableOf [(0, 12, 15, 13), (0, 12, 19, 15)] := vx_table (x := yL_depart) B (hts _ List.mem_cons_self)
  subst hsz
  have hD := hD0.self (sz := s.heap.size)
  generalize hAe : va_A (wH ad cA o cO σ g) s.heap.size = A at hD hOK ⊢
  have hA : ∀ q : Nat, s.heap.size ≤ q → A q := fun q h => by rw [← hAe]; exact Or.inr h
  clear hAe hD0
  have hS : va_S A s.heap s.heap [] := va_S.rf
  have hl := lv_entry ([.ref (ad 0), .int p1, .int p2, .int p3, .ref o]) (n := 6) (Nat.le_of_ble_eq_true rfl)
  rw [lg_entry_eq]
  generalize (lg_sl ([.ref (ad 0), .int p1, .int p2, .int p3, .ref o]) ++ List.replicate (6 - (lg_sl ([.ref (ad 0), .int p1, .int p2, .int p3, .ref o])).length) Slot.unset).toArray = ls at hl ⊢
  have hl : lv_has ls 6 [(0, .ref (ad 0)), (1, .int p1), (2, .int p2), (3, .int p3), (4, .ref o)] := hl
  have hS9 : CallFix p m c cL_depart 6 s _ wsL_depart RL := ⟨hx, hb, hml, hown, hts⟩
  refine lv_aload hx hb dL_depart_0 (lv_at hl 4 rfl) ?_
  refine lv_iconst (v := 0) hx hb dL_depart_2 (by decide) ?_
  refine lv_aload_n hx hb dL_depart_3 rfl (lv_at hl 0 rfl) ?_
  refine lv_iload_n hx hb dL_depart_4 rfl (lv_at hl 1 rfl) ?_
  refine lv_iload_n hx hb dL_depart_5 rfl (lv_at hl 2 rfl) ?_
  refine lv_iload_n hx hb dL_depart_6 rfl (lv_at hl 3 rfl) ?_
  have hPC : va_P D vwCl (wC ad cA σ) s.heap := hP.lf
  have hDC : va_D A (wC ad cA σ) := hD.lf
  have hF9 := gFree hDC hS hA
  have hrun := gx_runV (p := p) (e := e) (below := below) (meth := meth) (H := s.heap) (locs := []) (R := (headSpec wsL_depart ({ frames := 8, cells := 1, slots := 6, locals := 128 } : Room)).room) (A := A) (st0 := [.int p3, .int p2, .int p1, .ref (ad 0), .int 0, .ref o]) (As := [.int p1, .int p2, .int p3]) (rest := [.int 0, .ref o]) (Qc := gQXi D (wC ad cA) (tC cA) _ res) hS9 (tyc_T_depart l D ad cA _ σ p1 p2 p3 _ hl9 hF) (cwV 3 hts gL_depart_X4_depart rfl rfl rfl hd_X4_depart ⟨by decide, by decide⟩) hOK (tH_C cA cO hK) hPC hDC hS hA hNN (ci := 4) (q0 := 0) (N := 12) rfl (wC_0 ad cA σ) rfl hl.1 rfl (Nat.le_of_ble_eq_true rfl) dL_depart_7 ⟨by decide, by decide⟩
  refine gl_runi (rest2 := .ref (ad 0) :: [.int p1, .int p2, .int p3]) hrun hDC hS hA (fun E ce q9 τ H locs hres hP1 hD1 hfr hS hce hcv hcl => ?_) (fun r τ H locs hres hP1 hD1 hfr hS => ?_)
  · obtain ⟨k, rfl, rfl⟩ := hres
    obtain ⟨hP, hD⟩ := gl_join hP hD hfr hF9 hP1 hD1
    have hP : va_P D vwCl (wH ad cA o cO τ g) H := hP
    have hD : va_D A (wH ad cA o cO τ g) := hD
    have hc : (k = 0 ∧ kk = 1) ∨ (k = 1 ∧ kk = 2) := by
      rcases k with _ | _ | _ | k
      · revert hk; simp [kOf, List.idxOf?, List.findIdx?, List.findIdx?.go]; try omega
      · revert hk; simp [kOf, List.idxOf?, List.findIdx?, List.findIdx?.go]; try omega
      · revert hk; simp [kOf, List.idxOf?, List.findIdx?, List.findIdx?.go]; try omega
      · exfalso; revert hk; simp [kOf, List.idxOf?, List.findIdx?, List.findIdx?.go]
    rcases hc with ⟨rfl, rfl⟩ | ⟨rfl, rfl⟩
    · refine vx_catch (own := RL) (name := exn 1) hown (tableOf []) (⟨0, 12, 15, 13⟩ : ExceptionTableEntry) (tableOf [(0, 12, 19, 15)]) (by rw [htab]; rfl) (fun z hz => nomatch hz) (by decide) (by decide) (hCL _ (List.mem_of_getElem? (i := 0) rfl) _) (gNw_use hOK.2.2.1 (List.mem_of_getElem? (i := 0) rfl)) hce hcv hcl ?_
      refine lv_astore (lv' := [(5, .ref q9), (0, .ref (ad 0)), (1, .int p1), (2, .int p2), (3, .int p3), (4, .ref o)]) hx hb dL_depart_15 hl (by decide) rfl (fun ls hl => ?_)
      refine lv_iconst (v := 1) hx hb dL_depart_17 (by decide) ?_
      exact W.iret (v := 1) hx hb hr (fun t ht hW => ⟨⟨1, (τ, g), rfl, ⟨rfl, rfl, fun h => absurd h (by decide)⟩, by rw [ht]; exact hP, va_K.moved hW.alike hK, hD⟩, hS.F ht⟩) hS.2.2 dL_depart_18 hlocks
    · refine vx_catch (own := RL) (name := exn 2) hown (tableOf [(0, 12, 15, 13)]) (⟨0, 12, 19, 15⟩ : ExceptionTableEntry) (tableOf []) (by rw [htab]; rfl) (fun z hz => by obtain rfl := List.mem_singleton.mp hz; exact Or.inr ⟨by decide, _, hCL _ (List.mem_of_getElem? (i := 0) rfl) _, hNC (exn 2, exn 1) (List.mem_of_getElem? (i := 2) rfl)⟩) (by decide) (by decide) (hCL _ (List.mem_of_getElem? (i := 1) rfl) _) (gNw_use hOK.2.2.1 (List.mem_of_getElem? (i := 1) rfl)) hce hcv hcl ?_
      refine lv_astore (lv' := [(5, .ref q9), (0, .ref (ad 0)), (1, .int p1), (2, .int p2), (3, .int p3), (4, .ref o)]) hx hb dL_depart_19 hl (by decide) rfl (fun ls hl => ?_)
      refine lv_iconst (v := 2) hx hb dL_depart_21 (by decide) ?_
      exact W.iret (v := 2) hx hb hr (fun t ht hW => ⟨⟨2, (τ, g), rfl, ⟨rfl, rfl, fun h => absurd h (by decide)⟩, by rw [ht]; exact hP, va_K.moved hW.alike hK, hD⟩, hS.F ht⟩) hS.2.2 dL_depart_22 hlocks
  · subst hres
    obtain ⟨hP, hD⟩ := gl_join hP hD hfr hF9 hP1 hD1
    have hP : va_P D vwCl (wH ad cA o cO τ g) H := hP
    have hD : va_D A (wH ad cA o cO τ g) := hD
    obtain rfl : kk = 0 := by revert hk; simp [kOf]; try omega
    refine lv_i2l (v := r.toInt64) hx hb dL_depart_10 rfl ?_
    refine va_last hx hb hK hP hD hS 32 26 (wH_32 ad cA o cO τ g) (tH_26 cA cO) vp_in_01 dL_depart_11 (fun H locs hP hD hS => ?_)
    rw [wHs_32, sb_cl0] at hP hD
    refine lv_goto (tgt := 23) hx hb dL_depart_12 (by decide) ?_
    refine lv_iconst (v := 0) hx hb dL_depart_23 (by decide) ?_
    refine W.widen (k := 1) (n := 6) (by omega) (by omega) ?_
    exact W.iret (v := 0) hx hb hr (fun t ht hW => ⟨⟨0, (τ, vp_updL g 0 r.toInt64), rfl, ⟨rfl, rfl, fun _ => rfl⟩, by rw [ht]; exact hP, va_K.moved hW.alike hK, hD⟩, hS.F ht⟩) hS.2.2 dL_depart_24 hlocks
set_option maxHeartbeats 4000000 in
set_option maxRecDepth 100000 in
theorem tyh_arrive (l : Launch) (hl9 : l.stackTraces = false) (D : va_G) (ad : Nat → Nat) (cA : Nat → ClassId) (o : Nat) (cO : ClassId) (sz : Nat) (σ : tyS) (g : Nat → Int64) (p1 : Int32) (p2 : Int32) (res : tyX) (kk : Nat) (hF : tyf_T_arrive σ p1 p2 = some res) (hk : kOf [3, 1, 2] res.1 = some kk) : hMet l yL_arrive wsL_arrive ({ frames := 7, cells := 1, slots := 6, locals := 107 } : Room) D ad cA o cO [.ref (ad 0), .int p1, .int p2, .ref o] sz σ g kk res.2.1.toInt64 res.2.2 := by
  refine ty_ofWH (cc := cL_arrive) (maxL := 5) (ret := (some .int)) (hh := [(0, 10, 13, 36), (0, 10, 17, 13), (0, 10, 21, 15)]) (by decide) rfl ?_
  intro p e s m args below meth c s₁ B hml hv
  obtain ⟨rfl, hsz, hP, hK, hD0, hNN, hOK, hNC, hCL⟩ := hv
  have hx := B.exec
  have hb := B.bytes
  have hr := B.returns
  have hts := atoms_spec (ws := wsL_arrive) B.pre
  have hown : s.vm.findClass RL = some m.cls := findClass_of_methodNamed B.named
  have hlocks := B.notSynchronized
  have htab : c.exceptionTable.toList = tableOf [(0, 10, 13, 36), (0, 10, 17, 13), (0, 10, 21, 15)] := vx_table (x := yL_arrive) B (hts _ List.mem_cons_self)
  subst hsz
  have hD := hD0.self (sz := s.heap.size)
  generalize hAe : va_A (wH ad cA o cO σ g) s.heap.size = A at hD hOK ⊢
  have hA : ∀ q : Nat, s.heap.size ≤ q → A q := fun q h => by rw [← hAe]; exact Or.inr h
  clear hAe hD0
  have hS : va_S A s.heap s.heap [] := va_S.rf
  have hl := lv_entry ([.ref (ad 0), .int p1, .int p2, .ref o]) (n := 5) (Nat.le_of_ble_eq_true rfl)
  rw [lg_entry_eq]
  generalize (lg_sl ([.ref (ad 0), .int p1, .int p2, .ref o]) ++ List.replicate (5 - (lg_sl ([.ref (ad 0), .int p1, .int p2, .ref o])).length) Slot.unset).toArray = ls at hl ⊢
  have hl : lv_has ls 5 [(0, .ref (ad 0)), (1, .int p1), (2, .int p2), (3, .ref o)] := hl
  have hS9 : CallFix p m c cL_arrive 5 s _ wsL_arrive RL := ⟨hx, hb, hml, hown, hts⟩
  refine lv_aload_n hx hb dL_arrive_0 rfl (lv_at hl 3 rfl) ?_
  refine lv_iconst (v := 0) hx hb dL_arrive_1 (by decide) ?_
  refine lv_aload_n hx hb dL_arrive_2 rfl (lv_at hl 0 rfl) ?_
  refine lv_iload_n hx hb dL_arrive_3 rfl (lv_at hl 1 rfl) ?_
  refine lv_iload_n hx hb dL_arrive_4 rfl (lv_at hl 2 rfl) ?_
  have hPC : va_P D vwCl (wC ad cA σ) s.heap := hP.lf
  have hDC : va_D A (wC ad cA σ) := hD.lf
  have hF9 := gFree hDC hS hA
  have hrun := gx_runV (p := p) (e := e) (below := below) (meth := meth) (H := s.heap) (locs := []) (R := (headSpec wsL_arrive ({ frames := 7, cells := 1, slots := 6, locals := 107 } : Room)).room) (A := A) (st0 := [.int p2, .int p1, .ref (ad 0), .int 0, .ref o]) (As := [.int p1, .int p2]) (rest := [.int 0, .ref o]) (Qc := gQXi D (wC ad cA) (tC cA) _ res) hS9 (tyc_T_arrive l D ad cA _ σ p1 p2 _ hl9 hF) (cwV 2 hts gL_arrive_X4_arrive rfl rfl rfl hd_X4_arrive ⟨by decide, by decide⟩) hOK (tH_C cA cO hK) hPC hDC hS hA hNN (ci := 4) (q0 := 0) (N := 12) rfl (wC_0 ad cA σ) rfl hl.1 rfl (Nat.le_of_ble_eq_true rfl) dL_arrive_5 ⟨by decide, by decide⟩
  refine gl_runi (rest2 := .ref (ad 0) :: [.int p1, .int p2]) hrun hDC hS hA (fun E ce q9 τ H locs hres hP1 hD1 hfr hS hce hcv hcl => ?_) (fun r τ H locs hres hP1 hD1 hfr hS => ?_)
  · obtain ⟨k, rfl, rfl⟩ := hres
    obtain ⟨hP, hD⟩ := gl_join hP hD hfr hF9 hP1 hD1
    have hP : va_P D vwCl (wH ad cA o cO τ g) H := hP
    have hD : va_D A (wH ad cA o cO τ g) := hD
    have hc : (k = 2 ∧ kk = 1) ∨ (k = 0 ∧ kk = 2) ∨ (k = 1 ∧ kk = 3) := by
      rcases k with _ | _ | _ | k
      · revert hk; simp [kOf, List.idxOf?, List.findIdx?, List.findIdx?.go]; try omega
      · revert hk; simp [kOf, List.idxOf?, List.findIdx?, List.findIdx?.go]; try omega
      · revert hk; simp [kOf, List.idxOf?, List.findIdx?, List.findIdx?.go]; try omega
      · exfalso; revert hk; simp [kOf, List.idxOf?, List.findIdx?, List.findIdx?.go]
    rcases hc with ⟨rfl, rfl⟩ | ⟨rfl, rfl⟩ | ⟨rfl, rfl⟩
    · refine vx_catch (own := RL) (name := exn 3) hown (tableOf []) (⟨0, 10, 13, 36⟩ : ExceptionTableEntry) (tableOf [(0, 10, 17, 13), (0, 10, 21, 15)]) (by rw [htab]; rfl) (fun z hz => nomatch hz) (by decide) (by decide) (hCL _ (List.mem_of_getElem? (i := 2) rfl) _) (gNw_use hOK.2.2.1 (List.mem_of_getElem? (i := 2) rfl)) hce hcv hcl ?_
      refine lv_astore (lv' := [(4, .ref q9), (0, .ref (ad 0)), (1, .int p1), (2, .int p2), (3, .ref o)]) hx hb dL_arrive_13 hl (by decide) rfl (fun ls hl => ?_)
      refine lv_iconst (v := 1) hx hb dL_arrive_15 (by decide) ?_
      exact W.iret (v := 1) hx hb hr (fun t ht hW => ⟨⟨1, (τ, g), rfl, ⟨rfl, rfl, fun h => absurd h (by decide)⟩, by rw [ht]; exact hP, va_K.moved hW.alike hK, hD⟩, hS.F ht⟩) hS.2.2 dL_arrive_16 hlocks
    · refine vx_catch (own := RL) (name := exn 1) hown (tableOf [(0, 10, 13, 36)]) (⟨0, 10, 17, 13⟩ : ExceptionTableEntry) (tableOf [(0, 10, 21, 15)]) (by rw [htab]; rfl) (fun z hz => by obtain rfl := List.mem_singleton.mp hz; exact Or.inr ⟨by decide, _, hCL _ (List.mem_of_getElem? (i := 2) rfl) _, hNC (exn 1, exn 3) (List.mem_of_getElem? (i := 1) rfl)⟩) (by decide) (by decide) (hCL _ (List.mem_of_getElem? (i := 0) rfl) _) (gNw_use hOK.2.2.1 (List.mem_of_getElem? (i := 0) rfl)) hce hcv hcl ?_
      refine lv_astore (lv' := [(4, .ref q9), (0, .ref (ad 0)), (1, .int p1), (2, .int p2), (3, .ref o)]) hx hb dL_arrive_17 hl (by decide) rfl (fun ls hl => ?_)
      refine lv_iconst (v := 2) hx hb dL_arrive_19 (by decide) ?_
      exact W.iret (v := 2) hx hb hr (fun t ht hW => ⟨⟨2, (τ, g), rfl, ⟨rfl, rfl, fun h => absurd h (by decide)⟩, by rw [ht]; exact hP, va_K.moved hW.alike hK, hD⟩, hS.F ht⟩) hS.2.2 dL_arrive_20 hlocks
    · refine vx_catch (own := RL) (name := exn 2) hown (tableOf [(0, 10, 13, 36), (0, 10, 17, 13)]) (⟨0, 10, 21, 15⟩ : ExceptionTableEntry) (tableOf []) (by rw [htab]; rfl) (fun z hz => (List.mem_cons.mp hz).elim (fun h9 => by subst h9; exact Or.inr ⟨by decide, _, hCL _ (List.mem_of_getElem? (i := 2) rfl) _, hNC (exn 2, exn 3) (List.mem_of_getElem? (i := 3) rfl)⟩) (fun hz => by obtain rfl := List.mem_singleton.mp hz; exact Or.inr ⟨by decide, _, hCL _ (List.mem_of_getElem? (i := 0) rfl) _, hNC (exn 2, exn 1) (List.mem_of_getElem? (i := 2) rfl)⟩)) (by decide) (by decide) (hCL _ (List.mem_of_getElem? (i := 1) rfl) _) (gNw_use hOK.2.2.1 (List.mem_of_getElem? (i := 1) rfl)) hce hcv hcl ?_
      refine lv_astore (lv' := [(4, .ref q9), (0, .ref (ad 0)), (1, .int p1), (2, .int p2), (3, .ref o)]) hx hb dL_arrive_21 hl (by decide) rfl (fun ls hl => ?_)
      refine lv_iconst (v := 3) hx hb dL_arrive_23 (by decide) ?_
      exact W.iret (v := 3) hx hb hr (fun t ht hW => ⟨⟨3, (τ, g), rfl, ⟨rfl, rfl, fun h => absurd h (by decide)⟩, by rw [ht]; exact hP, va_K.moved hW.alike hK, hD⟩, hS.F ht⟩) hS.2.2 dL_arrive_24 hlocks
  · subst hres
    obtain ⟨hP, hD⟩ := gl_join hP hD hfr hF9 hP1 hD1
    have hP : va_P D vwCl (wH ad cA o cO τ g) H := hP
    have hD : va_D A (wH ad cA o cO τ g) := hD
    obtain rfl : kk = 0 := by revert hk; simp [kOf]; try omega
    refine lv_i2l (v := r.toInt64) hx hb dL_arrive_8 rfl ?_
    refine va_last hx hb hK hP hD hS 32 26 (wH_32 ad cA o cO τ g) (tH_26 cA cO) vp_in_01 dL_arrive_9 (fun H locs hP hD hS => ?_)
    rw [wHs_32, sb_cl0] at hP hD
    refine lv_goto (tgt := 25) hx hb dL_arrive_10 (by decide) ?_
    refine lv_iconst (v := 0) hx hb dL_arrive_25 (by decide) ?_
    refine W.widen (k := 1) (n := 6) (by omega) (by omega) ?_
    exact W.iret (v := 0) hx hb hr (fun t ht hW => ⟨⟨0, (τ, vp_updL g 0 r.toInt64), rfl, ⟨rfl, rfl, fun _ => rfl⟩, by rw [ht]; exact hP, va_K.moved hW.alike hK, hD⟩, hS.F ht⟩) hS.2.2 dL_arrive_26 hlocks
