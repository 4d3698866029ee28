set_option maxHeartbeats 4000000 in
set_option maxRecDepth 100000 in
theorem tyh_wagon (l : Launch) (hl9 : l.stackTraces = false) (D : va_G) (ad : Nat → Nat) (cA : Nat → ClassId) (o : Nat) (cO : ClassId) (sz : Nat) (σ : tyS) (g : Nat → Int64) (p1 : Int32) (p2 : Int32) (res : tyX) (kk : Nat) (hF : tyf_T_wagon σ p1 p2 = some res) (hk : kOf [1, 2] res.1 = some kk) : hMet l yL_wagon wsL_wagon ({ frames := 8, cells := 1, slots := 6, locals := 127 } : Room) D ad cA o cO [.ref (ad 0), .int p1, .int p2, .ref o] sz σ g kk res.2.1.toInt64 res.2.2 := by
  refine ty_ofWH (cc := cL_wagon) (maxL := 5) (ret := (some .int)) (hh := [(0, 10, 13, 13), (0, 10, 17, 15)]) (by decide) rfl ?_
  intro p e s m args below meth c s₁ B hml hv
  obtain ⟨rfl, hsz, hP, hK, hD0, hNN, hOK, hNC, hCL⟩ := hv
  have hx := B.exec
  have hb := B.bytes
  have hr := B.returns
  have hts := atoms_spec (ws := wsL_wagon) B.pre
  have hown : s.vm.findClass RL = some m.cls := findClass_of_methodNamed B.named
  have hlocks := B.notSynchronized
  have htab : c.exceptionTable.toList = tableOf [(0, 10, 13, 13), (0, 10, 17, 15)] := vx_table (x := yL_wagon) B (hts _ List.mem_cons_self)
  subst hsz
  have hD := hD0.self (sz := s.heap.size)
  generalize hAe : va_A (wH ad cA o cO σ g) s.heap.size = A at hD hOK ⊢
  have hA : ∀ q : Nat, s.heap.size ≤ q → A q := fun q h => by rw [← hAe]; exact Or.inr h
  clear hAe hD0
  have hS : va_S A s.heap s.heap [] := va_S.rf
  have hl := lv_entry ([.ref (ad 0), .int p1, .int p2, .ref o]) (n := 5) (Nat.le_of_ble_eq_true rfl)
  rw [lg_entry_eq]
  generalize (lg_sl ([.ref (ad 0), .int p1, .int p2, .ref o]) ++ List.replicate (5 - (lg_sl ([.ref (ad 0), .int p1, .int p2, .ref o])).length) Slot.unset).toArray = ls at hl ⊢
  have hl : lv_has ls 5 [(0, .ref (ad 0)), (1, .int p1), (2, .int p2), (3, .ref o)] := hl
  have hS9 : CallFix p m c cL_wagon 5 s _ wsL_wagon RL := ⟨hx, hb, hml, hown, hts⟩
  refine lv_aload_n hx hb dL_wagon_0 rfl (lv_at hl 3 rfl) ?_
  refine lv_iconst (v := 0) hx hb dL_wagon_1 (by decide) ?_
  refine lv_aload_n hx hb dL_wagon_2 rfl (lv_at hl 0 rfl) ?_
  refine lv_iload_n hx hb dL_wagon_3 rfl (lv_at hl 1 rfl) ?_
  refine lv_iload_n hx hb dL_wagon_4 rfl (lv_at hl 2 rfl) ?_
  have hPC : va_P D vwCl (wC ad cA σ) s.heap := hP.lf
  have hDC : va_D A (wC ad cA σ) := hD.lf
  have hF9 := gFree hDC hS hA
  have hrun := gx_runV (p := p) (e := e) (below := below) (meth := meth) (H := s.heap) (locs := []) (R := (headSpec wsL_wagon ({ frames := 8, cells := 1, slots := 6, locals := 127 } : Room)).room) (A := A) (st0 := [.int p2, .int p1, .ref (ad 0), .int 0, .ref o]) (As := [.int p1, .int p2]) (rest := [.int 0, .ref o]) (Qc := gQXi D (wC ad cA) (tC cA) _ res) hS9 (tyc_T_wagon l D ad cA _ σ p1 p2 _ hl9 hF) (cwV 2 hts gL_wagon_X4_wagon rfl rfl rfl hd_X4_wagon ⟨by decide, by decide⟩) hOK (tH_C cA cO hK) hPC hDC hS hA hNN (ci := 4) (q0 := 0) (N := 12) rfl (wC_0 ad cA σ) rfl hl.1 rfl (Nat.le_of_ble_eq_true rfl) dL_wagon_5 ⟨by decide, by decide⟩
  refine gl_runi (rest2 := .ref (ad 0) :: [.int p1, .int p2]) hrun hDC hS hA (fun E ce q9 τ H locs hres hP1 hD1 hfr hS hce hcv hcl => ?_) (fun r τ H locs hres hP1 hD1 hfr hS => ?_)
  · obtain ⟨k, rfl, rfl⟩ := hres
    obtain ⟨hP, hD⟩ := gl_join hP hD hfr hF9 hP1 hD1
    have hP : va_P D vwCl (wH ad cA o cO τ g) H := hP
    have hD : va_D A (wH ad cA o cO τ g) := hD
    have hc : (k = 0 ∧ kk = 1) ∨ (k = 1 ∧ kk = 2) := by
      rcases k with _ | _ | _ | k
      · revert hk; simp [kOf, List.idxOf?, List.findIdx?, List.findIdx?.go]; try omega
      · revert hk; simp [kOf, List.idxOf?, List.findIdx?, List.findIdx?.go]; try omega
      · revert hk; simp [kOf, List.idxOf?, List.findIdx?, List.findIdx?.go]; try omega
      · exfalso; revert hk; simp [kOf, List.idxOf?, List.findIdx?, List.findIdx?.go]
    rcases hc with ⟨rfl, rfl⟩ | ⟨rfl, rfl⟩
    · refine vx_catch (own := RL) (name := exn 1) hown (tableOf []) (⟨0, 10, 13, 13⟩ : ExceptionTableEntry) (tableOf [(0, 10, 17, 15)]) (by rw [htab]; rfl) (fun z hz => nomatch hz) (by decide) (by decide) (hCL _ (List.mem_of_getElem? (i := 0) rfl) _) (gNw_use hOK.2.2.1 (List.mem_of_getElem? (i := 0) rfl)) hce hcv hcl ?_
      refine lv_astore (lv' := [(4, .ref q9), (0, .ref (ad 0)), (1, .int p1), (2, .int p2), (3, .ref o)]) hx hb dL_wagon_13 hl (by decide) rfl (fun ls hl => ?_)
      refine lv_iconst (v := 1) hx hb dL_wagon_15 (by decide) ?_
      exact W.iret (v := 1) hx hb hr (fun t ht hW => ⟨⟨1, (τ, g), rfl, ⟨rfl, rfl, fun h => absurd h (by decide)⟩, by rw [ht]; exact hP, va_K.moved hW.alike hK, hD⟩, hS.F ht⟩) hS.2.2 dL_wagon_16 hlocks
    · refine vx_catch (own := RL) (name := exn 2) hown (tableOf [(0, 10, 13, 13)]) (⟨0, 10, 17, 15⟩ : ExceptionTableEntry) (tableOf []) (by rw [htab]; rfl) (fun z hz => by obtain rfl := List.mem_singleton.mp hz; exact Or.inr ⟨by decide, _, hCL _ (List.mem_of_getElem? (i := 0) rfl) _, hNC (exn 2, exn 1) (List.mem_of_getElem? (i := 2) rfl)⟩) (by decide) (by decide) (hCL _ (List.mem_of_getElem? (i := 1) rfl) _) (gNw_use hOK.2.2.1 (List.mem_of_getElem? (i := 1) rfl)) hce hcv hcl ?_
      refine lv_astore (lv' := [(4, .ref q9), (0, .ref (ad 0)), (1, .int p1), (2, .int p2), (3, .ref o)]) hx hb dL_wagon_17 hl (by decide) rfl (fun ls hl => ?_)
      refine lv_iconst (v := 2) hx hb dL_wagon_19 (by decide) ?_
      exact W.iret (v := 2) hx hb hr (fun t ht hW => ⟨⟨2, (τ, g), rfl, ⟨rfl, rfl, fun h => absurd h (by decide)⟩, by rw [ht]; exact hP, va_K.moved hW.alike hK, hD⟩, hS.F ht⟩) hS.2.2 dL_wagon_20 hlocks
  · subst hres
    obtain ⟨hP, hD⟩ := gl_join hP hD hfr hF9 hP1 hD1
    have hP : va_P D vwCl (wH ad cA o cO τ g) H := hP
    have hD : va_D A (wH ad cA o cO τ g) := hD
    obtain rfl : kk = 0 := by revert hk; simp [kOf]; try omega
    refine lv_i2l (v := r.toInt64) hx hb dL_wagon_8 rfl ?_
    refine va_last hx hb hK hP hD hS 32 26 (wH_32 ad cA o cO τ g) (tH_26 cA cO) vp_in_01 dL_wagon_9 (fun H locs hP hD hS => ?_)
    rw [wHs_32, sb_cl0] at hP hD
    refine lv_goto (tgt := 21) hx hb dL_wagon_10 (by decide) ?_
    refine lv_iconst (v := 0) hx hb dL_wagon_21 (by decide) ?_
    refine W.widen (k := 1) (n := 6) (by omega) (by omega) ?_
    exact W.iret (v := 0) hx hb hr (fun t ht hW => ⟨⟨0, (τ, vp_updL g 0 r.toInt64), rfl, ⟨rfl, rfl, fun _ => rfl⟩, by rw [ht]; exact hP, va_K.moved hW.alike hK, hD⟩, hS.F ht⟩) hS.2.2 dL_wagon_22 hlocks
set_option maxHeartbeats 4000000 in
set_option maxRecDepth 100000 in
theorem tyh_shunt (l : Launch) (hl9 : l.stackTraces = false) (D : va_G) (ad : Nat → Nat) (cA : Nat → ClassId) (o : Nat) (cO : ClassId) (sz : Nat) (σ : tyS) (g : Nat → Int64) (p1 : Int32) (p2 : Int32) (p3 : Int32) (p4 : Int32) (res : tyX) (kk : Nat) (hF : tyf_T_shunt σ p1 p2 p3 p4 = some res) (hk : kOf [1, 2] res.1 = some kk) : hMet l yL_shunt wsL_shunt ({ frames := 8, cells := 1, slots := 6, locals := 129 } : Room) D ad cA o cO [.ref (ad 0), .int p1, .int p2, .int p3, .int p4, .ref o] sz σ g kk res.2.1.toInt64 res.2.2 := by
  refine ty_ofWH (cc := cL_shunt) (maxL := 7) (ret := (some .int)) (hh := [(0, 14, 17, 13), (0, 14, 21, 15)]) (by decide) rfl ?_
  intro p e s m args below meth c s₁ B hml hv
  obtain ⟨rfl, hsz, hP, hK, hD0, hNN, hOK, hNC, hCL⟩ := hv
  have hx := B.exec
  have hb := B.bytes
  have hr := B.returns
  have hts := atoms_spec (ws := wsL_shunt) B.pre
  have hown : s.vm.findClass RL = some m.cls := findClass_of_methodNamed B.named
  have hlocks := B.notSynchronized
  have htab : c.exceptionTable.toList = tableOf [(0, 14, 17, 13), (0, 14, 21, 15)] := vx_table (x := yL_shunt) B (hts _ List.mem_cons_self)
  subst hsz
  have hD := hD0.self (sz := s.heap.size)
  generalize hAe : va_A (wH ad cA o cO σ g) s.heap.size = A at hD hOK ⊢
  have hA : ∀ q : Nat, s.heap.size ≤ q → A q := fun q h => by rw [← hAe]; exact Or.inr h
  clear hAe hD0
  have hS : va_S A s.heap s.heap [] := va_S.rf
  have hl := lv_entry ([.ref (ad 0), .int p1, .int p2, .int p3, .int p4, .ref o]) (n := 7) (Nat.le_of_ble_eq_true rfl)
  rw [lg_entry_eq]
  generalize (lg_sl ([.ref (ad 0), .int p1, .int p2, .int p3, .int p4, .ref o]) ++ List.replicate (7 - (lg_sl ([.ref (ad 0), .int p1, .int p2, .int p3, .int p4, .ref o])).length) Slot.unset).toArray = ls at hl ⊢
  have hl : lv_has ls 7 [(0, .ref (ad 0)), (1, .int p1), (2, .int p2), (3, .int p3), (4, .int p4), (5, .ref o)] := hl
  have hS9 : CallFix p m c cL_shunt 7 s _ wsL_shunt RL := ⟨hx, hb, hml, hown, hts⟩
  refine lv_aload hx hb dL_shunt_0 (lv_at hl 5 rfl) ?_
  refine lv_iconst (v := 0) hx hb dL_shunt_2 (by decide) ?_
  refine lv_aload_n hx hb dL_shunt_3 rfl (lv_at hl 0 rfl) ?_
  refine lv_iload_n hx hb dL_shunt_4 rfl (lv_at hl 1 rfl) ?_
  refine lv_iload_n hx hb dL_shunt_5 rfl (lv_at hl 2 rfl) ?_
  refine lv_iload_n hx hb dL_shunt_6 rfl (lv_at hl 3 rfl) ?_
  refine lv_iload hx hb dL_shunt_7 (lv_at hl 4 rfl) ?_
  have hPC : va_P D vwCl (wC ad cA σ) s.heap := hP.lf
  have hDC : va_D A (wC ad cA σ) := hD.lf
  have hF9 := gFree hDC hS hA
  have hrun := gx_runV (p := p) (e := e) (below := below) (meth := meth) (H := s.heap) (locs := []) (R := (headSpec wsL_shunt ({ frames := 8, cells := 1, slots := 6, locals := 129 } : Room)).room) (A := A) (st0 := [.int p4, .int p3, .int p2, .int p1, .ref (ad 0), .int 0, .ref o]) (As := [.int p1, .int p2, .int p3, .int p4]) (rest := [.int 0, .ref o]) (Qc := gQXi D (wC ad cA) (tC cA) _ res) hS9 (tyc_T_shunt l D ad cA _ σ p1 p2 p3 p4 _ hl9 hF) (cwV 4 hts gL_shunt_X4_shunt rfl rfl rfl hd_X4_shunt ⟨by decide, by decide⟩) hOK (tH_C cA cO hK) hPC hDC hS hA hNN (ci := 4) (q0 := 0) (N := 12) rfl (wC_0 ad cA σ) rfl hl.1 rfl (Nat.le_of_ble_eq_true rfl) dL_shunt_9 ⟨by decide, by decide⟩
  refine gl_runi (rest2 := .ref (ad 0) :: [.int p1, .int p2, .int p3, .int p4]) hrun hDC hS hA (fun E ce q9 τ H locs hres hP1 hD1 hfr hS hce hcv hcl => ?_) (fun r τ H locs hres hP1 hD1 hfr hS => ?_)
  · obtain ⟨k, rfl, rfl⟩ := hres
    obtain ⟨hP, hD⟩ := gl_join hP hD hfr hF9 hP1 hD1
    have hP : va_P D vwCl (wH ad cA o cO τ g) H := hP
    have hD : va_D A (wH ad cA o cO τ g) := hD
    have hc : (k = 0 ∧ kk = 1) ∨ (k = 1 ∧ kk = 2) := by
      rcases k with _ | _ | _ | k
      · revert hk; simp [kOf, List.idxOf?, List.findIdx?, List.findIdx?.go]; try omega
      · revert hk; simp [kOf, List.idxOf?, List.findIdx?, List.findIdx?.go]; try omega
      · revert hk; simp [kOf, List.idxOf?, List.findIdx?, List.findIdx?.go]; try omega
      · exfalso; revert hk; simp [kOf, List.idxOf?, List.findIdx?, List.findIdx?.go]
    rcases hc with ⟨rfl, rfl⟩ | ⟨rfl, rfl⟩
    · refine vx_catch (own := RL) (name := exn 1) hown (tableOf []) (⟨0, 14, 17, 13⟩ : ExceptionTableEntry) (tableOf [(0, 14, 21, 15)]) (by rw [htab]; rfl) (fun z hz => nomatch hz) (by decide) (by decide) (hCL _ (List.mem_of_getElem? (i := 0) rfl) _) (gNw_use hOK.2.2.1 (List.mem_of_getElem? (i := 0) rfl)) hce hcv hcl ?_
      refine lv_astore (lv' := [(6, .ref q9), (0, .ref (ad 0)), (1, .int p1), (2, .int p2), (3, .int p3), (4, .int p4), (5, .ref o)]) hx hb dL_shunt_17 hl (by decide) rfl (fun ls hl => ?_)
      refine lv_iconst (v := 1) hx hb dL_shunt_19 (by decide) ?_
      exact W.iret (v := 1) hx hb hr (fun t ht hW => ⟨⟨1, (τ, g), rfl, ⟨rfl, rfl, fun h => absurd h (by decide)⟩, by rw [ht]; exact hP, va_K.moved hW.alike hK, hD⟩, hS.F ht⟩) hS.2.2 dL_shunt_20 hlocks
    · refine vx_catch (own := RL) (name := exn 2) hown (tableOf [(0, 14, 17, 13)]) (⟨0, 14, 21, 15⟩ : ExceptionTableEntry) (tableOf []) (by rw [htab]; rfl) (fun z hz => by obtain rfl := List.mem_singleton.mp hz; exact Or.inr ⟨by decide, _, hCL _ (List.mem_of_getElem? (i := 0) rfl) _, hNC (exn 2, exn 1) (List.mem_of_getElem? (i := 2) rfl)⟩) (by decide) (by decide) (hCL _ (List.mem_of_getElem? (i := 1) rfl) _) (gNw_use hOK.2.2.1 (List.mem_of_getElem? (i := 1) rfl)) hce hcv hcl ?_
      refine lv_astore (lv' := [(6, .ref q9), (0, .ref (ad 0)), (1, .int p1), (2, .int p2), (3, .int p3), (4, .int p4), (5, .ref o)]) hx hb dL_shunt_21 hl (by decide) rfl (fun ls hl => ?_)
      refine lv_iconst (v := 2) hx hb dL_shunt_23 (by decide) ?_
      exact W.iret (v := 2) hx hb hr (fun t ht hW => ⟨⟨2, (τ, g), rfl, ⟨rfl, rfl, fun h => absurd h (by decide)⟩, by rw [ht]; exact hP, va_K.moved hW.alike hK, hD⟩, hS.F ht⟩) hS.2.2 dL_shunt_24 hlocks
  · subst hres
    obtain ⟨hP, hD⟩ := gl_join hP hD hfr hF9 hP1 hD1
    have hP : va_P D vwCl (wH ad cA o cO τ g) H := hP
    have hD : va_D A (wH ad cA o cO τ g) := hD
    obtain rfl : kk = 0 := by revert hk; simp [kOf]; try omega
    refine lv_i2l (v := r.toInt64) hx hb dL_shunt_12 rfl ?_
    refine va_last hx hb hK hP hD hS 32 26 (wH_32 ad cA o cO τ g) (tH_26 cA cO) vp_in_01 dL_shunt_13 (fun H locs hP hD hS => ?_)
    rw [wHs_32, sb_cl0] at hP hD
    refine lv_goto (tgt := 25) hx hb dL_shunt_14 (by decide) ?_
    refine lv_iconst (v := 0) hx hb dL_shunt_25 (by decide) ?_
    refine W.widen (k := 1) (n := 6) (by omega) (by omega) ?_
    exact W.iret (v := 0) hx hb hr (fun t ht hW => ⟨⟨0, (τ, vp_updL g 0 r.toInt64), rfl, ⟨rfl, rfl, fun _ => rfl⟩, by rw [ht]; exact hP, va_K.moved hW.alike hK, hD⟩, hS.F ht⟩) hS.2.2 dL_shunt_26 hlocks
set_option maxHeartbeats 4000000 in
set_option maxRecDepth 100000 in
theorem tyh_wash (l : Launch) (hl9 : l.stackTraces = false) (D : va_G) (ad : Nat → Nat) (cA : Nat → ClassId) (o : Nat) (cO : ClassId) (sz : Nat) (σ : tyS) (g : Nat → Int64) (p1 : Int32) (res : tyX) (kk : Nat) (hF : tyf_T_wash σ p1 = some res) (hk : kOf [1, 2] res.1 = some kk) : hMet l yL_wash wsL_wash ({ frames := 8, cells := 1, slots := 6, locals := 127 } : Room) D ad cA o cO [.ref (ad 0), .int p1, .ref o] sz σ g kk res.2.1.toInt64 res.2.2 := by
  refine ty_ofWH (cc := cL_wash) (maxL := 4) (ret := (some .int)) (hh := [(0, 9, 12, 13), (0, 9, 15, 15)]) (by decide) rfl ?_
  intro p e s m args below meth c s₁ B hml hv
  obtain ⟨rfl, hsz, hP, hK, hD0, hNN, hOK, hNC, hCL⟩ := hv
  have hx := B.exec
  have hb := B.bytes
  have hr := B.returns
  have hts := atoms_spec (ws := wsL_wash) B.pre
  have hown : s.vm.findClass RL = some m.cls := findClass_of_methodNamed B.named
  have hlocks := B.notSynchronized
  have htab : c.exceptionTable.toList = tableOf [(0, 9, 12, 13), (0, 9, 15, 15)] := vx_table (x := yL_wash) B (hts _ List.mem_cons_self)
  subst hsz
  have hD := hD0.self (sz := s.heap.size)
  generalize hAe : va_A (wH ad cA o cO σ g) s.heap.size = A at hD hOK ⊢
  have hA : ∀ q : Nat, s.heap.size ≤ q → A q := fun q h => by rw [← hAe]; exact Or.inr h
  clear hAe hD0
  have hS : va_S A s.heap s.heap [] := va_S.rf
  have hl := lv_entry ([.ref (ad 0), .int p1, .ref o]) (n := 4) (Nat.le_of_ble_eq_true rfl)
  rw [lg_entry_eq]
  generalize (lg_sl ([.ref (ad 0), .int p1, .ref o]) ++ List.replicate (4 - (lg_sl ([.ref (ad 0), .int p1, .ref o])).length) Slot.unset).toArray = ls at hl ⊢
  have hl : lv_has ls 4 [(0, .ref (ad 0)), (1, .int p1), (2, .ref o)] := hl
  have hS9 : CallFix p m c cL_wash 4 s _ wsL_wash RL := ⟨hx, hb, hml, hown, hts⟩
  refine lv_aload_n hx hb dL_wash_0 rfl (lv_at hl 2 rfl) ?_
  refine lv_iconst (v := 0) hx hb dL_wash_1 (by decide) ?_
  refine lv_aload_n hx hb dL_wash_2 rfl (lv_at hl 0 rfl) ?_
  refine lv_iload_n hx hb dL_wash_3 rfl (lv_at hl 1 rfl) ?_
  have hPC : va_P D vwCl (wC ad cA σ) s.heap := hP.lf
  have hDC : va_D A (wC ad cA σ) := hD.lf
  have hF9 := gFree hDC hS hA
  have hrun := gx_runV (p := p) (e := e) (below := below) (meth := meth) (H := s.heap) (locs := []) (R := (headSpec wsL_wash ({ frames := 8, cells := 1, slots := 6, locals := 127 } : Room)).room) (A := A) (st0 := [.int p1, .ref (ad 0), .int 0, .ref o]) (As := [.int p1]) (rest := [.int 0, .ref o]) (Qc := gQXi D (wC ad cA) (tC cA) _ res) hS9 (tyc_T_wash l D ad cA _ σ p1 _ hl9 hF) (cwV 1 hts gL_wash_X4_wash rfl rfl rfl hd_X4_wash ⟨by decide, by decide⟩) hOK (tH_C cA cO hK) hPC hDC hS hA hNN (ci := 4) (q0 := 0) (N := 12) rfl (wC_0 ad cA σ) rfl hl.1 rfl (Nat.le_of_ble_eq_true rfl) dL_wash_4 ⟨by decide, by decide⟩
  refine gl_runi (rest2 := .ref (ad 0) :: [.int p1]) hrun hDC hS hA (fun E ce q9 τ H locs hres hP1 hD1 hfr hS hce hcv hcl => ?_) (fun r τ H locs hres hP1 hD1 hfr hS => ?_)
  · obtain ⟨k, rfl, rfl⟩ := hres
    obtain ⟨hP, hD⟩ := gl_join hP hD hfr hF9 hP1 hD1
    have hP : va_P D vwCl (wH ad cA o cO τ g) H := hP
    have hD : va_D A (wH ad cA o cO τ g) := hD
    have hc : (k = 0 ∧ kk = 1) ∨ (k = 1 ∧ kk = 2) := by
      rcases k with _ | _ | _ | k
      · revert hk; simp [kOf, List.idxOf?, List.findIdx?, List.findIdx?.go]; try omega
      · revert hk; simp [kOf, List.idxOf?, List.findIdx?, List.findIdx?.go]; try omega
      · revert hk; simp [kOf, List.idxOf?, List.findIdx?, List.findIdx?.go]; try omega
      · exfalso; revert hk; simp [kOf, List.idxOf?, List.findIdx?, List.findIdx?.go]
    rcases hc with ⟨rfl, rfl⟩ | ⟨rfl, rfl⟩
    · refine vx_catch (own := RL) (name := exn 1) hown (tableOf []) (⟨0, 9, 12, 13⟩ : ExceptionTableEntry) (tableOf [(0, 9, 15, 15)]) (by rw [htab]; rfl) (fun z hz => nomatch hz) (by decide) (by decide) (hCL _ (List.mem_of_getElem? (i := 0) rfl) _) (gNw_use hOK.2.2.1 (List.mem_of_getElem? (i := 0) rfl)) hce hcv hcl ?_
      refine lv_astore_n (lv' := [(3, .ref q9), (0, .ref (ad 0)), (1, .int p1), (2, .ref o)]) hx hb dL_wash_12 rfl hl (by decide) rfl (fun ls hl => ?_)
      refine lv_iconst (v := 1) hx hb dL_wash_13 (by decide) ?_
      exact W.iret (v := 1) hx hb hr (fun t ht hW => ⟨⟨1, (τ, g), rfl, ⟨rfl, rfl, fun h => absurd h (by decide)⟩, by rw [ht]; exact hP, va_K.moved hW.alike hK, hD⟩, hS.F ht⟩) hS.2.2 dL_wash_14 hlocks
    · refine vx_catch (own := RL) (name := exn 2) hown (tableOf [(0, 9, 12, 13)]) (⟨0, 9, 15, 15⟩ : ExceptionTableEntry) (tableOf []) (by rw [htab]; rfl) (fun z hz => by obtain rfl := List.mem_singleton.mp hz; exact Or.inr ⟨by decide, _, hCL _ (List.mem_of_getElem? (i := 0) rfl) _, hNC (exn 2, exn 1) (List.mem_of_getElem? (i := 2) rfl)⟩) (by decide) (by decide) (hCL _ (List.mem_of_getElem? (i := 1) rfl) _) (gNw_use hOK.2.2.1 (List.mem_of_getElem? (i := 1) rfl)) hce hcv hcl ?_
      refine lv_astore_n (lv' := [(3, .ref q9), (0, .ref (ad 0)), (1, .int p1), (2, .ref o)]) hx hb dL_wash_15 rfl hl (by decide) rfl (fun ls hl => ?_)
      refine lv_iconst (v := 2) hx hb dL_wash_16 (by decide) ?_
      exact W.iret (v := 2) hx hb hr (fun t ht hW => ⟨⟨2, (τ, g), rfl, ⟨rfl, rfl, fun h => absurd h (by decide)⟩, by rw [ht]; exact hP, va_K.moved hW.alike hK, hD⟩, hS.F ht⟩) hS.2.2 dL_wash_17 hlocks
  · subst hres
    obtain ⟨hP, hD⟩ := gl_join hP hD hfr hF9 hP1 hD1
    have hP : va_P D vwCl (wH ad cA o cO τ g) H := hP
    have hD : va_D A (wH ad cA o cO τ g) := hD
    obtain rfl : kk = 0 := by revert hk; simp [kOf]; try omega
    refine lv_i2l (v := r.toInt64) hx hb dL_wash_7 rfl ?_
    refine va_last hx hb hK hP hD hS 32 26 (wH_32 ad cA o cO τ g) (tH_26 cA cO) vp_in_01 dL_wash_8 (fun H locs hP hD hS => ?_)
    rw [wHs_32, sb_cl0] at hP hD
    refine lv_goto (tgt := 18) hx hb dL_wash_9 (by decide) ?_
    refine lv_iconst (v := 0) hx hb dL_wash_18 (by decide) ?_
    refine W.widen (k := 1) (n := 6) (by omega) (by omega) ?_
    exact W.iret (v := 0) hx hb hr (fun t ht hW => ⟨⟨0, (τ, vp_updL g 0 r.toInt64), rfl, ⟨rfl, rfl, fun _ => rfl⟩, by rw [ht]; exact hP, va_K.moved hW.alike hK, hD⟩, hS.F ht⟩) hS.2.2 dL_wash_19 hlocks
set_option maxHeartbeats 4000000 in
set_option maxRecDepth 100000 in
theorem tyh_follow (l : Launch) (hl9 : l.stackTraces = false) (D : va_G) (ad : Nat → Nat) (cA : Nat → ClassId) (o : Nat) (cO : ClassId) (sz : Nat) (σ : tyS) (g : Nat → Int64) (p1 : Int32) (p2 : Int32) (res : tyX) (kk : Nat) (hF : tyf_T_follow σ p1 p2 = some res) (hk : kOf [1] res.1 = some kk) : hMet l yL_follow wsL_follow ({ frames := 7, cells := 1, slots := 6, locals := 105 } : Room) D ad cA o cO [.ref (ad 0), .int p1, .int p2, .ref o] sz σ g kk (if res.2.1 = 0 then (0 : Int64) else 1) res.2.2 := by
  refine ty_ofWH (cc := cL_follow) (maxL := 5) (ret := (some .int)) (hh := [(0, 17, 20, 13)]) (by decide) rfl ?_
  intro p e s m args below meth c s₁ B hml hv
  obtain ⟨rfl, hsz, hP, hK, hD0, hNN, hOK, hNC, hCL⟩ := hv
  have hx := B.exec
  have hb := B.bytes
  have hr := B.returns
  have hts := atoms_spec (ws := wsL_follow) B.pre
  have hown : s.vm.findClass RL = some m.cls := findClass_of_methodNamed B.named
  have hlocks := B.notSynchronized
  have htab : c.exceptionTable.toList = tableOf [(0, 17, 20, 13)] := vx_table (x := yL_follow) B (hts _ List.mem_cons_self)
  subst hsz
  have hD := hD0.self (sz := s.heap.size)
  generalize hAe : va_A (wH ad cA o cO σ g) s.heap.size = A at hD hOK ⊢
  have hA : ∀ q : Nat, s.heap.size ≤ q → A q := fun q h => by rw [← hAe]; exact Or.inr h
  clear hAe hD0
  have hS : va_S A s.heap s.heap [] := va_S.rf
  have hl := lv_entry ([.ref (ad 0), .int p1, .int p2, .ref o]) (n := 5) (Nat.le_of_ble_eq_true rfl)
  rw [lg_entry_eq]
  generalize (lg_sl ([.ref (ad 0), .int p1, .int p2, .ref o]) ++ List.replicate (5 - (lg_sl ([.ref (ad 0), .int p1, .int p2, .ref o])).length) Slot.unset).toArray = ls at hl ⊢
  have hl : lv_has ls 5 [(0, .ref (ad 0)), (1, .int p1), (2, .int p2), (3, .ref o)] := hl
  have hS9 : CallFix p m c cL_follow 5 s _ wsL_follow RL := ⟨hx, hb, hml, hown, hts⟩
  refine lv_aload_n hx hb dL_follow_0 rfl (lv_at hl 3 rfl) ?_
  refine lv_iconst (v := 0) hx hb dL_follow_1 (by decide) ?_
  refine lv_aload_n hx hb dL_follow_2 rfl (lv_at hl 0 rfl) ?_
  refine lv_iload_n hx hb dL_follow_3 rfl (lv_at hl 1 rfl) ?_
  refine lv_iload_n hx hb dL_follow_4 rfl (lv_at hl 2 rfl) ?_
  have hPC : va_P D vwCl (wC ad cA σ) s.heap := hP.lf
  have hDC : va_D A (wC ad cA σ) := hD.lf
  have hF9 := gFree hDC hS hA
  have hrun := gx_runV (p := p) (e := e) (below := below) (meth := meth) (H := s.heap) (locs := []) (R := (headSpec wsL_follow ({ frames := 7, cells := 1, slots := 6, locals := 105 } : Room)).room) (A := A) (st0 := [.int p2, .int p1, .ref (ad 0), .int 0, .ref o]) (As := [.int p1, .int p2]) (rest := [.int 0, .ref o]) (Qc := gQXi D (wC ad cA) (tC cA) _ res) hS9 (tyc_T_follow l D ad cA _ σ p1 p2 _ hl9 hF) (cwV 2 hts gL_follow_X4_follow rfl rfl rfl hd_X4_follow ⟨by decide, by decide⟩) hOK (tH_C cA cO hK) hPC hDC hS hA hNN (ci := 4) (q0 := 0) (N := 12) rfl (wC_0 ad cA σ) rfl hl.1 rfl (Nat.le_of_ble_eq_true rfl) dL_follow_5 ⟨by decide, by decide⟩
  refine gl_runi (rest2 := .ref (ad 0) :: [.int p1, .int p2]) hrun hDC hS hA (fun E ce q9 τ H locs hres hP1 hD1 hfr hS hce hcv hcl => ?_) (fun r τ H locs hres hP1 hD1 hfr hS => ?_)
  · obtain ⟨k, rfl, rfl⟩ := hres
    obtain ⟨hP, hD⟩ := gl_join hP hD hfr hF9 hP1 hD1
    have hP : va_P D vwCl (wH ad cA o cO τ g) H := hP
    have hD : va_D A (wH ad cA o cO τ g) := hD
    have hc : (k = 0 ∧ kk = 1) := by
      rcases k with _ | _ | _ | k
      · revert hk; simp [kOf, List.idxOf?, List.findIdx?, List.findIdx?.go]; try omega
      · revert hk; simp [kOf, List.idxOf?, List.findIdx?, List.findIdx?.go]; try omega
      · revert hk; simp [kOf, List.idxOf?, List.findIdx?, List.findIdx?.go]; try omega
      · exfalso; revert hk; simp [kOf, List.idxOf?, List.findIdx?, List.findIdx?.go]
    obtain ⟨rfl, rfl⟩ := hc
    refine vx_catch (own := RL) (name := exn 1) hown (tableOf []) (⟨0, 17, 20, 13⟩ : ExceptionTableEntry) (tableOf []) (by rw [htab]; rfl) (fun z hz => nomatch hz) (by decide) (by decide) (hCL _ (List.mem_of_getElem? (i := 0) rfl) _) (gNw_use hOK.2.2.1 (List.mem_of_getElem? (i := 0) rfl)) hce hcv hcl ?_
    refine lv_astore (lv' := [(4, .ref q9), (0, .ref (ad 0)), (1, .int p1), (2, .int p2), (3, .ref o)]) hx hb dL_follow_20 hl (by decide) rfl (fun ls hl => ?_)
    refine lv_iconst (v := 1) hx hb dL_follow_22 (by decide) ?_
    exact W.iret (v := 1) hx hb hr (fun t ht hW => ⟨⟨1, (τ, g), rfl, ⟨rfl, rfl, fun h => absurd h (by decide)⟩, by rw [ht]; exact hP, va_K.moved hW.alike hK, hD⟩, hS.F ht⟩) hS.2.2 dL_follow_23 hlocks
  · subst hres
    obtain ⟨hP, hD⟩ := gl_join hP hD hfr hF9 hP1 hD1
    have hP : va_P D vwCl (wH ad cA o cO τ g) H := hP
    have hD : va_D A (wH ad cA o cO τ g) := hD
    obtain rfl : kk = 0 := by revert hk; simp [kOf]; try omega
    refine lv_if_eq (tgt := 15) hx hb dL_follow_8 (by decide) (fun c9 => ?_) (fun c9 => ?_)
    · refine lv_lconst (v := 0) hx hb dL_follow_15 rfl ?_
      refine va_last hx hb hK hP hD hS 32 26 (wH_32 ad cA o cO τ g) (tH_26 cA cO) vp_in_01 dL_follow_16 (fun H locs hP hD hS => ?_)
      rw [wHs_32, sb_cl0] at hP hD
      refine lv_goto (tgt := 24) hx hb dL_follow_17 (by decide) ?_
      refine lv_iconst (v := 0) hx hb dL_follow_24 (by decide) ?_
      refine W.widen (k := 1) (n := 6) (by omega) (by omega) ?_
      exact W.iret (v := 0) hx hb hr (fun t ht hW => ⟨⟨0, (τ, vp_updL g 0 0), rfl, ⟨rfl, rfl, fun _ => by rw [if_pos c9]; rfl⟩, by rw [ht]; exact hP, va_K.moved hW.alike hK, hD⟩, hS.F ht⟩) hS.2.2 dL_follow_25 hlocks
    · refine lv_lconst (v := 1) hx hb dL_follow_11 rfl ?_
      refine lv_goto (tgt := 16) hx hb dL_follow_12 (by decide) ?_
      refine va_last hx hb hK hP hD hS 32 26 (wH_32 ad cA o cO τ g) (tH_26 cA cO) vp_in_01 dL_follow_16 (fun H locs hP hD hS => ?_)
      rw [wHs_32, sb_cl0] at hP hD
      refine lv_goto (tgt := 24) hx hb dL_follow_17 (by decide) ?_
      refine lv_iconst (v := 0) hx hb dL_follow_24 (by decide) ?_
      refine W.widen (k := 1) (n := 6) (by omega) (by omega) ?_
      exact W.iret (v := 0) hx hb hr (fun t ht hW => ⟨⟨0, (τ, vp_updL g 0 1), rfl, ⟨rfl, rfl, fun _ => by rw [if_neg c9]; rfl⟩, by rw [ht]; exact hP, va_K.moved hW.alike hK, hD⟩, hS.F ht⟩) hS.2.2 dL_follow_25 hlocks
set_option maxHeartbeats 4000000 in
set_option maxRecDepth 100000 in
theorem tyh_on (l : Launch) (hl9 : l.stackTraces = false) (D : va_G) (ad : Nat → Nat) (cA : Nat → ClassId) (o : Nat) (cO : ClassId) (sz : Nat) (σ : tyS) (g : Nat → Int64) (p1 : Int32) (p2 : Int32) (res : tyX) (kk : Nat) (hF : tyf_T_on σ p1 p2 = some res) (hk : kOf [1] res.1 = some kk) : hMet l yL_on wsL_on ({ frames := 8, cells := 1, slots := 6, locals := 125 } : Room) D ad cA o cO [.ref (ad 0), .int p1, .int p2, .ref o] sz σ g kk res.2.1.toInt64 res.2.2 := by
  refine ty_ofWH (cc := cL_on) (maxL := 5) (ret := (some .int)) (hh := [(0, 10, 13, 13)]) (by decide) rfl ?_
  intro p e s m args below meth c s₁ B hml hv
  obtain ⟨rfl, hsz, hP, hK, hD0, hNN, hOK, hNC, hCL⟩ := hv
  have hx := B.exec
  have hb := B.bytes
  have hr := B.returns
  have hts := atoms_spec (ws := wsL_on) B.pre
  have hown : s.vm.findClass RL = some m.cls := findClass_of_methodNamed B.named
  have hlocks := B.notSynchronized
  have htab : c.exceptionTable.toList = tableOf [(0, 10, 13, 13)] := vx_table (x := yL_on) B (hts _ List.mem_cons_self)
  subst hsz
  have hD := hD0.self (sz := s.heap.size)
  generalize hAe : va_A (wH ad cA o cO σ g) s.heap.size = A at hD hOK ⊢
  have hA : ∀ q : Nat, s.heap.size ≤ q → A q := fun q h => by rw [← hAe]; exact Or.inr h
  clear hAe hD0
  have hS : va_S A s.heap s.heap [] := va_S.rf
  have hl := lv_entry ([.ref (ad 0), .int p1, .int p2, .ref o]) (n := 5) (Nat.le_of_ble_eq_true rfl)
  rw [lg_entry_eq]
  generalize (lg_sl ([.ref (ad 0), .int p1, .int p2, .ref o]) ++ List.replicate (5 - (lg_sl ([.ref (ad 0), .int p1, .int p2, .ref o])).length) Slot.unset).toArray = ls at hl ⊢
  have hl : lv_has ls 5 [(0, .ref (ad 0)), (1, .int p1), (2, .int p2), (3, .ref o)] := hl
  have hS9 : CallFix p m c cL_on 5 s _ wsL_on RL := ⟨hx, hb, hml, hown, hts⟩
  refine lv_aload_n hx hb dL_on_0 rfl (lv_at hl 3 rfl) ?_
  refine lv_iconst (v := 0) hx hb dL_on_1 (by decide) ?_
  refine lv_aload_n hx hb dL_on_2 rfl (lv_at hl 0 rfl) ?_
  refine lv_iload_n hx hb dL_on_3 rfl (lv_at hl 1 rfl) ?_
  refine lv_iload_n hx hb dL_on_4 rfl (lv_at hl 2 rfl) ?_
  have hPC : va_P D vwCl (wC ad cA σ) s.heap := hP.lf
  have hDC : va_D A (wC ad cA σ) := hD.lf
  have hF9 := gFree hDC hS hA
  have hrun := gx_runV (p := p) (e := e) (below := below) (meth := meth) (H := s.heap) (locs := []) (R := (headSpec wsL_on ({ frames := 8, cells := 1, slots := 6, locals := 125 } : Room)).room) (A := A) (st0 := [.int p2, .int p1, .ref (ad 0), .int 0, .ref o]) (As := [.int p1, .int p2]) (rest := [.int 0, .ref o]) (Qc := gQXi D (wC ad cA) (tC cA) _ res) hS9 (tyc_T_on l D ad cA _ σ p1 p2 _ hl9 hF) (cwV 2 hts gL_on_X4_on rfl rfl rfl hd_X4_on ⟨by decide, by decide⟩) hOK (tH_C cA cO hK) hPC hDC hS hA hNN (ci := 4) (q0 := 0) (N := 12) rfl (wC_0 ad cA σ) rfl hl.1 rfl (Nat.le_of_ble_eq_true rfl) dL_on_5 ⟨by decide, by decide⟩
  refine gl_runi (rest2 := .ref (ad 0) :: [.int p1, .int p2]) hrun hDC hS hA (fun E ce q9 τ H locs hres hP1 hD1 hfr hS hce hcv hcl => ?_) (fun r τ H locs hres hP1 hD1 hfr hS => ?_)
  · obtain ⟨k, rfl, rfl⟩ := hres
    obtain ⟨hP, hD⟩ := gl_join hP hD hfr hF9 hP1 hD1
    have hP : va_P D vwCl (wH ad cA o cO τ g) H := hP
    have hD : va_D A (wH ad cA o cO τ g) := hD
    have hc : (k = 0 ∧ kk = 1) := by
      rcases k with _ | _ | _ | k
      · revert hk; simp [kOf, List.idxOf?, List.findIdx?, List.findIdx?.go]; try omega
      · revert hk; simp [kOf, List.idxOf?, List.findIdx?, List.findIdx?.go]; try omega
      · revert hk; simp [kOf, List.idxOf?, List.findIdx?, List.findIdx?.go]; try omega
      · exfalso; revert hk; simp [kOf, List.idxOf?, List.findIdx?, List.findIdx?.go]
    obtain ⟨rfl, rfl⟩ := hc
    refine vx_catch (own := RL) (name := exn 1) hown (tableOf []) (⟨0, 10, 13, 13⟩ : ExceptionTableEntry) (tableOf []) (by rw [htab]; rfl) (fun z hz => nomatch hz) (by decide) (by decide) (hCL _ (List.mem_of_getElem? (i := 0) rfl) _) (gNw_use hOK.2.2.1 (List.mem_of_getElem? (i := 0) rfl)) hce hcv hcl ?_
    refine lv_astore (lv' := [(4, .ref q9), (0, .ref (ad 0)), (1, .int p1), (2, .int p2), (3, .ref o)]) hx hb dL_on_13 hl (by decide) rfl (fun ls hl => ?_)
    refine lv_iconst (v := 1) hx hb dL_on_15 (by decide) ?_
    exact W.iret (v := 1) hx hb hr (fun t ht hW => ⟨⟨1, (τ, g), rfl, ⟨rfl, rfl, fun h => absurd h (by decide)⟩, by rw [ht]; exact hP, va_K.moved hW.alike hK, hD⟩, hS.F ht⟩) hS.2.2 dL_on_16 hlocks
  · subst hres
    obtain ⟨hP, hD⟩ := gl_join hP hD hfr hF9 hP1 hD1
    have hP : va_P D vwCl (wH ad cA o cO τ g) H := hP
    have hD : va_D A (wH ad cA o cO τ g) := hD
    obtain rfl : kk = 0 := by revert hk; simp [kOf]; try omega
    refine lv_i2l (v := r.toInt64) hx hb dL_on_8 rfl ?_
    refine va_last hx hb hK hP hD hS 32 26 (wH_32 ad cA o cO τ g) (tH_26 cA cO) vp_in_01 dL_on_9 (fun H locs hP hD hS => ?_)
    rw [wHs_32, sb_cl0] at hP hD
    refine lv_goto (tgt := 17) hx hb dL_on_10 (by decide) ?_
    refine lv_iconst (v := 0) hx hb dL_on_17 (by decide) ?_
    refine W.widen (k := 1) (n := 6) (by omega) (by omega) ?_
    exact W.iret (v := 0) hx hb hr (fun t ht hW => ⟨⟨0, (τ, vp_updL g 0 r.toInt64), rfl, ⟨rfl, rfl, fun _ => rfl⟩, by rw [ht]; exact hP, va_K.moved hW.alike hK, hD⟩, hS.F ht⟩) hS.2.2 dL_on_18 hlocks
set_option maxHeartbeats 4000000 in
set_option maxRecDepth 100000 in
theorem tyh_at (l : Launch) (hl9 : l.stackTraces = false) (D : va_G) (ad : Nat → Nat) (cA : Nat → ClassId) (o : Nat) (cO : ClassId) (sz : Nat) (σ : tyS) (g : Nat → Int64) (p1 : Int32) (p2 : Int32) (p3 : Int32) (res : tyX) (kk : Nat) (hF : tyf_T_at σ p1 p2 p3 = some res) (hk : kOf [1, 3] res.1 = some kk) : hMet l yL_at wsL_at ({ frames := 8, cells := 1, slots := 6, locals := 127 } : Room) D ad cA o cO [.ref (ad 0), .int p1, .int p2, .int p3, .ref o] sz σ g kk res.2.1.toInt64 res.2.2 := by
  refine ty_ofWH (cc := cL_at) (maxL := 6) (ret := (some .int)) (hh := [(0, 12, 15, 13), (0, 12, 19, 36)]) (by decide) rfl ?_
  intro p e s m args below meth c s₁ B hml hv
  obtain ⟨rfl, hsz, hP, hK, hD0, hNN, hOK, hNC, hCL⟩ := hv
  have hx := B.exec
  have hb := B.bytes
  have hr := B.returns
  have hts := atoms_spec (ws := wsL_at) B.pre
  have hown : s.vm.findClass RL = some m.cls := findClass_of_methodNamed B.named
  have hlocks := B.notSynchronized
  have htab : c.exceptionTable.toList = tableOf [(0, 12, 15, 13), (0, 12, 19, 36)] := vx_table (x := yL_at) B (hts _ List.mem_cons_self)
  subst hsz
  have hD := hD0.self (sz := s.heap.size)
  generalize hAe : va_A (wH ad cA o cO σ g) s.heap.size = A at hD hOK ⊢
  have hA : ∀ q : Nat, s.heap.size ≤ q → A q := fun q h => by rw [← hAe]; exact Or.inr h
  clear hAe hD0
  have hS : va_S A s.heap s.heap [] := va_S.rf
  have hl := lv_entry ([.ref (ad 0), .int p1, .int p2, .int p3, .ref o]) (n := 6) (Nat.le_of_ble_eq_true rfl)
  rw [lg_entry_eq]
  generalize (lg_sl ([.ref (ad 0), .int p1, .int p2, .int p3, .ref o]) ++ List.replicate (6 - (lg_sl ([.ref (ad 0), .int p1, .int p2, .int p3, .ref o])).length) Slot.unset).toArray = ls at hl ⊢
  have hl : lv_has ls 6 [(0, .ref (ad 0)), (1, .int p1), (2, .int p2), (3, .int p3), (4, .ref o)] := hl
  have hS9 : CallFix p m c cL_at 6 s _ wsL_at RL := ⟨hx, hb, hml, hown, hts⟩
  refine lv_aload hx hb dL_at_0 (lv_at hl 4 rfl) ?_
  refine lv_iconst (v := 0) hx hb dL_at_2 (by decide) ?_
  refine lv_aload_n hx hb dL_at_3 rfl (lv_at hl 0 rfl) ?_
  refine lv_iload_n hx hb dL_at_4 rfl (lv_at hl 1 rfl) ?_
  refine lv_iload_n hx hb dL_at_5 rfl (lv_at hl 2 rfl) ?_
  refine lv_iload_n hx hb dL_at_6 rfl (lv_at hl 3 rfl) ?_
  have hPC : va_P D vwCl (wC ad cA σ) s.heap := hP.lf
  have hDC : va_D A (wC ad cA σ) := hD.lf
  have hF9 := gFree hDC hS hA
  have hrun := gx_runV (p := p) (e := e) (below := below) (meth := meth) (H := s.heap) (locs := []) (R := (headSpec wsL_at ({ frames := 8, cells := 1, slots := 6, locals := 127 } : Room)).room) (A := A) (st0 := [.int p3, .int p2, .int p1, .ref (ad 0), .int 0, .ref o]) (As := [.int p1, .int p2, .int p3]) (rest := [.int 0, .ref o]) (Qc := gQXi D (wC ad cA) (tC cA) _ res) hS9 (tyc_T_at l D ad cA _ σ p1 p2 p3 _ hl9 hF) (cwV 3 hts gL_at_X4_at rfl rfl rfl hd_X4_at ⟨by decide, by decide⟩) hOK (tH_C cA cO hK) hPC hDC hS hA hNN (ci := 4) (q0 := 0) (N := 12) rfl (wC_0 ad cA σ) rfl hl.1 rfl (Nat.le_of_ble_eq_true rfl) dL_at_7 ⟨by decide, by decide⟩
  refine gl_runi (rest2 := .ref (ad 0) :: [.int p1, .int p2, .int p3]) hrun hDC hS hA (fun E ce q9 τ H locs hres hP1 hD1 hfr hS hce hcv hcl => ?_) (fun r τ H locs hres hP1 hD1 hfr hS => ?_)
  · obtain ⟨k, rfl, rfl⟩ := hres
    obtain ⟨hP, hD⟩ := gl_join hP hD hfr hF9 hP1 hD1
    have hP : va_P D vwCl (wH ad cA o cO τ g) H := hP
    have hD : va_D A (wH ad cA o cO τ g) := hD
    have hc : (k = 0 ∧ kk = 1) ∨ (k = 2 ∧ kk = 2) := by
      rcases k with _ | _ | _ | k
      · revert hk; simp [kOf, List.idxOf?, List.findIdx?, List.findIdx?.go]; try omega
      · revert hk; simp [kOf, List.idxOf?, List.findIdx?, List.findIdx?.go]; try omega
      · revert hk; simp [kOf, List.idxOf?, List.findIdx?, List.findIdx?.go]; try omega
      · exfalso; revert hk; simp [kOf, List.idxOf?, List.findIdx?, List.findIdx?.go]
    rcases hc with ⟨rfl, rfl⟩ | ⟨rfl, rfl⟩
    · refine vx_catch (own := RL) (name := exn 1) hown (tableOf []) (⟨0, 12, 15, 13⟩ : ExceptionTableEntry) (tableOf [(0, 12, 19, 36)]) (by rw [htab]; rfl) (fun z hz => nomatch hz) (by decide) (by decide) (hCL _ (List.mem_of_getElem? (i := 0) rfl) _) (gNw_use hOK.2.2.1 (List.mem_of_getElem? (i := 0) rfl)) hce hcv hcl ?_
      refine lv_astore (lv' := [(5, .ref q9), (0, .ref (ad 0)), (1, .int p1), (2, .int p2), (3, .int p3), (4, .ref o)]) hx hb dL_at_15 hl (by decide) rfl (fun ls hl => ?_)
      refine lv_iconst (v := 1) hx hb dL_at_17 (by decide) ?_
      exact W.iret (v := 1) hx hb hr (fun t ht hW => ⟨⟨1, (τ, g), rfl, ⟨rfl, rfl, fun h => absurd h (by decide)⟩, by rw [ht]; exact hP, va_K.moved hW.alike hK, hD⟩, hS.F ht⟩) hS.2.2 dL_at_18 hlocks
    · refine vx_catch (own := RL) (name := exn 3) hown (tableOf [(0, 12, 15, 13)]) (⟨0, 12, 19, 36⟩ : ExceptionTableEntry) (tableOf []) (by rw [htab]; rfl) (fun z hz => by obtain rfl := List.mem_singleton.mp hz; exact Or.inr ⟨by decide, _, hCL _ (List.mem_of_getElem? (i := 0) rfl) _, hNC (exn 3, exn 1) (List.mem_of_getElem? (i := 4) rfl)⟩) (by decide) (by decide) (hCL _ (List.mem_of_getElem? (i := 2) rfl) _) (gNw_use hOK.2.2.1 (List.mem_of_getElem? (i := 2) rfl)) hce hcv hcl ?_
      refine lv_astore (lv' := [(5, .ref q9), (0, .ref (ad 0)), (1, .int p1), (2, .int p2), (3, .int p3), (4, .ref o)]) hx hb dL_at_19 hl (by decide) rfl (fun ls hl => ?_)
      refine lv_iconst (v := 2) hx hb dL_at_21 (by decide) ?_
      exact W.iret (v := 2) hx hb hr (fun t ht hW => ⟨⟨2, (τ, g), rfl, ⟨rfl, rfl, fun h => absurd h (by decide)⟩, by rw [ht]; exact hP, va_K.moved hW.alike hK, hD⟩, hS.F ht⟩) hS.2.2 dL_at_22 hlocks
  · subst hres
    obtain ⟨hP, hD⟩ := gl_join hP hD hfr hF9 hP1 hD1
    have hP : va_P D vwCl (wH ad cA o cO τ g) H := hP
    have hD : va_D A (wH ad cA o cO τ g) := hD
    obtain rfl : kk = 0 := by revert hk; simp [kOf]; try omega
    refine lv_i2l (v := r.toInt64) hx hb dL_at_10 rfl ?_
    refine va_last hx hb hK hP hD hS 32 26 (wH_32 ad cA o cO τ g) (tH_26 cA cO) vp_in_01 dL_at_11 (fun H locs hP hD hS => ?_)
    rw [wHs_32, sb_cl0] at hP hD
    refine lv_goto (tgt := 23) hx hb dL_at_12 (by decide) ?_
    refine lv_iconst (v := 0) hx hb dL_at_23 (by decide) ?_
    refine W.widen (k := 1) (n := 6) (by omega) (by omega) ?_
    exact W.iret (v := 0) hx hb hr (fun t ht hW => ⟨⟨0, (τ, vp_updL g 0 r.toInt64), rfl, ⟨rfl, rfl, fun _ => rfl⟩, by rw [ht]; exact hP, va_K.moved hW.alike hK, hD⟩, hS.F ht⟩) hS.2.2 dL_at_24 hlocks
set_option maxHeartbeats 4000000 in
set_option maxRecDepth 100000 in
theorem tyh_atByReplay (l : Launch) (hl9 : l.stackTraces = false) (D : va_G) (ad : Nat → Nat) (cA : Nat → ClassId) (o : Nat) (cO : ClassId) (sz : Nat) (σ : tyS) (g : Nat → Int64) (p1 : Int32) (p2 : Int32) (p3 : Int32) (res : tyX) (kk : Nat) (hF : tyf_T_atByReplay σ p1 p2 p3 = some res) (hk : kOf [1, 3] res.1 = some kk) : hMet l yL_atByReplay wsL_atByReplay ({ frames := 8, cells := 1, slots := 6, locals := 127 } : Room) D ad cA o cO [.ref (ad 0), .int p1, .int p2, .int p3, .ref o] sz σ g kk res.2.1.toInt64 res.2.2 := by
  refine ty_ofWH (cc := cL_atByReplay) (maxL := 6) (ret := (some .int)) (hh := [(0, 12, 15, 13), (0, 12, 19, 36)]) (by decide) rfl ?_
  intro p e s m args below meth c s₁ B hml hv
  obtain ⟨rfl, hsz, hP, hK, hD0, hNN, hOK, hNC, hCL⟩ := hv
  have hx := B.exec
  have hb := B.bytes
  have hr := B.returns
  have hts := atoms_spec (ws := wsL_atByReplay) B.pre
  have hown : s.vm.findClass RL = some m.cls := findClass_of_methodNamed B.named
  have hlocks := B.notSynchronized
  have htab : c.exceptionTable.toList = tableOf [(0, 12, 15, 13), (0, 12, 19, 36)] := vx_table (x := yL_atByReplay) B (hts _ List.mem_cons_self)
  subst hsz
  have hD := hD0.self (sz := s.heap.size)
  generalize hAe : va_A (wH ad cA o cO σ g) s.heap.size = A at hD hOK ⊢
  have hA : ∀ q : Nat, s.heap.size ≤ q → A q := fun q h => by rw [← hAe]; exact Or.inr h
  clear hAe hD0
  have hS : va_S A s.heap s.heap [] := va_S.rf
  have hl := lv_entry ([.ref (ad 0), .int p1, .int p2, .int p3, .ref o]) (n := 6) (Nat.le_of_ble_eq_true rfl)
  rw [lg_entry_eq]
  generalize (lg_sl ([.ref (ad 0), .int p1, .int p2, .int p3, .ref o]) ++ List.replicate (6 - (lg_sl ([.ref (ad 0), .int p1, .int p2, .int p3, .ref o])).length) Slot.unset).toArray = ls at hl ⊢
  have hl : lv_has ls 6 [(0, .ref (ad 0)), (1, .int p1), (2, .int p2), (3, .int p3), (4, .ref o)] := hl
  have hS9 : CallFix p m c cL_atByReplay 6 s _ wsL_atByReplay RL := ⟨hx, hb, hml, hown, hts⟩
  refine lv_aload hx hb dL_atByReplay_0 (lv_at hl 4 rfl) ?_
  refine lv_iconst (v := 0) hx hb dL_atByReplay_2 (by decide) ?_
  refine lv_aload_n hx hb dL_atByReplay_3 rfl (lv_at hl 0 rfl) ?_
  refine lv_iload_n hx hb dL_atByReplay_4 rfl (lv_at hl 1 rfl) ?_
  refine lv_iload_n hx hb dL_atByReplay_5 rfl (lv_at hl 2 rfl) ?_
  refine lv_iload_n hx hb dL_atByReplay_6 rfl (lv_at hl 3 rfl) ?_
  have hPC : va_P D vwCl (wC ad cA σ) s.heap := hP.lf
  have hDC : va_D A (wC ad cA σ) := hD.lf
  have hF9 := gFree hDC hS hA
  have hrun := gx_runV (p := p) (e := e) (below := below) (meth := meth) (H := s.heap) (locs := []) (R := (headSpec wsL_atByReplay ({ frames := 8, cells := 1, slots := 6, locals := 127 } : Room)).room) (A := A) (st0 := [.int p3, .int p2, .int p1, .ref (ad 0), .int 0, .ref o]) (As := [.int p1, .int p2, .int p3]) (rest := [.int 0, .ref o]) (Qc := gQXi D (wC ad cA) (tC cA) _ res) hS9 (tyc_T_atByReplay l D ad cA _ σ p1 p2 p3 _ hl9 hF) (cwV 3 hts gL_atByReplay_X4_atByReplay rfl rfl rfl hd_X4_atByReplay ⟨by decide, by decide⟩) hOK (tH_C cA cO hK) hPC hDC hS hA hNN (ci := 4) (q0 := 0) (N := 12) rfl (wC_0 ad cA σ) rfl hl.1 rfl (Nat.le_of_ble_eq_true rfl) dL_atByReplay_7 ⟨by decide, by decide⟩
  refine gl_runi (rest2 := .ref (ad 0) :: [.int p1, .int p2, .int p3]) hrun hDC hS hA (fun E ce q9 τ H locs hres hP1 hD1 hfr hS hce hcv hcl => ?_) (fun r τ H locs hres hP1 hD1 hfr hS => ?_)
  · obtain ⟨k, rfl, rfl⟩ := hres
    obtain ⟨hP, hD⟩ := gl_join hP hD hfr hF9 hP1 hD1
    have hP : va_P D vwCl (wH ad cA o cO τ g) H := hP
    have hD : va_D A (wH ad cA o cO τ g) := hD
    have hc : (k = 0 ∧ kk = 1) ∨ (k = 2 ∧ kk = 2) := by
      rcases k with _ | _ | _ | k
      · revert hk; simp [kOf, List.idxOf?, List.findIdx?, List.findIdx?.go]; try omega
      · revert hk; simp [kOf, List.idxOf?, List.findIdx?, List.findIdx?.go]; try omega
      · revert hk; simp [kOf, List.idxOf?, List.findIdx?, List.findIdx?.go]; try omega
      · exfalso; revert hk; simp [kOf, List.idxOf?, List.findIdx?, List.findIdx?.go]
    rcases hc with ⟨rfl, rfl⟩ | ⟨rfl, rfl⟩
    · refine vx_catch (own := RL) (name := exn 1) hown (tableOf []) (⟨0, 12, 15, 13⟩ : ExceptionTableEntry) (tableOf [(0, 12, 19, 36)]) (by rw [htab]; rfl) (fun z hz => nomatch hz) (by decide) (by decide) (hCL _ (List.mem_of_getElem? (i := 0) rfl) _) (gNw_use hOK.2.2.1 (List.mem_of_getElem? (i := 0) rfl)) hce hcv hcl ?_
      refine lv_astore (lv' := [(5, .ref q9), (0, .ref (ad 0)), (1, .int p1), (2, .int p2), (3, .int p3), (4, .ref o)]) hx hb dL_atByReplay_15 hl (by decide) rfl (fun ls hl => ?_)
      refine lv_iconst (v := 1) hx hb dL_atByReplay_17 (by decide) ?_
      exact W.iret (v := 1) hx hb hr (fun t ht hW => ⟨⟨1, (τ, g), rfl, ⟨rfl, rfl, fun h => absurd h (by decide)⟩, by rw [ht]; exact hP, va_K.moved hW.alike hK, hD⟩, hS.F ht⟩) hS.2.2 dL_atByReplay_18 hlocks
    · refine vx_catch (own := RL) (name := exn 3) hown (tableOf [(0, 12, 15, 13)]) (⟨0, 12, 19, 36⟩ : ExceptionTableEntry) (tableOf []) (by rw [htab]; rfl) (fun z hz => by obtain rfl := List.mem_singleton.mp hz; exact Or.inr ⟨by decide, _, hCL _ (List.mem_of_getElem? (i := 0) rfl) _, hNC (exn 3, exn 1) (List.mem_of_getElem? (i := 4) rfl)⟩) (by decide) (by decide) (hCL _ (List.mem_of_getElem? (i := 2) rfl) _) (gNw_use hOK.2.2.1 (List.mem_of_getElem? (i := 2) rfl)) hce hcv hcl ?_
      refine lv_astore (lv' := [(5, .ref q9), (0, .ref (ad 0)), (1, .int p1), (2, .int p2), (3, .int p3), (4, .ref o)]) hx hb dL_atByReplay_19 hl (by decide) rfl (fun ls hl => ?_)
      refine lv_iconst (v := 2) hx hb dL_atByReplay_21 (by decide) ?_
      exact W.iret (v := 2) hx hb hr (fun t ht hW => ⟨⟨2, (τ, g), rfl, ⟨rfl, rfl, fun h => absurd h (by decide)⟩, by rw [ht]; exact hP, va_K.moved hW.alike hK, hD⟩, hS.F ht⟩) hS.2.2 dL_atByReplay_22 hlocks
  · subst hres
    obtain ⟨hP, hD⟩ := gl_join hP hD hfr hF9 hP1 hD1
    have hP : va_P D vwCl (wH ad cA o cO τ g) H := hP
    have hD : va_D A (wH ad cA o cO τ g) := hD
    obtain rfl : kk = 0 := by revert hk; simp [kOf]; try omega
    refine lv_i2l (v := r.toInt64) hx hb dL_atByReplay_10 rfl ?_
    refine va_last hx hb hK hP hD hS 32 26 (wH_32 ad cA o cO τ g) (tH_26 cA cO) vp_in_01 dL_atByReplay_11 (fun H locs hP hD hS => ?_)
    rw [wHs_32, sb_cl0] at hP hD
    refine lv_goto (tgt := 23) hx hb dL_atByReplay_12 (by decide) ?_
    refine lv_iconst (v := 0) hx hb dL_atByReplay_23 (by decide) ?_
    refine W.widen (k := 1) (n := 6) (by omega) (by omega) ?_
    exact W.iret (v := 0) hx hb hr (fun t ht hW => ⟨⟨0, (τ, vp_updL g 0 r.toInt64), rfl, ⟨rfl, rfl, fun _ => rfl⟩, by rw [ht]; exact hP, va_K.moved hW.alike hK, hD⟩, hS.F ht⟩) hS.2.2 dL_atByReplay_24 hlocks
set_option maxHeartbeats 4000000 in
set_option maxRecDepth 100000 in
theorem tyh_where (l : Launch) (hl9 : l.stackTraces = false) (D : va_G) (ad : Nat → Nat) (cA : Nat → ClassId) (o : Nat) (cO : ClassId) (sz : Nat) (σ : tyS) (g : Nat → Int64) (p1 : Int32) (res : tyX) (kk : Nat) (hF : tyf_T_where σ p1 = some res) (hk : kOf [3] res.1 = some kk) : hMet l yL_where wsL_where ({ frames := 8, cells := 1, slots := 6, locals := 125 } : Room) D ad cA o cO [.ref (ad 0), .int p1, .ref o] sz σ g kk res.2.1.toInt64 res.2.2 := by
  refine ty_ofWH (cc := cL_where) (maxL := 4) (ret := (some .int)) (hh := [(0, 9, 12, 36)]) (by decide) rfl ?_
  intro p e s m args below meth c s₁ B hml hv
  obtain ⟨rfl, hsz, hP, hK, hD0, hNN, hOK, hNC, hCL⟩ := hv
  have hx := B.exec
  have hb := B.bytes
  have hr := B.returns
  have hts := atoms_spec (ws := wsL_where) B.pre
  have hown : s.vm.findClass RL = some m.cls := findClass_of_methodNamed B.named
  have hlocks := B.notSynchronized
  have htab : c.exceptionTable.toList = tableOf [(0, 9, 12, 36)] := vx_table (x := yL_where) B (hts _ List.mem_cons_self)
  subst hsz
  have hD := hD0.self (sz := s.heap.size)
  generalize hAe : va_A (wH ad cA o cO σ g) s.heap.size = A at hD hOK ⊢
  have hA : ∀ q : Nat, s.heap.size ≤ q → A q := fun q h => by rw [← hAe]; exact Or.inr h
  clear hAe hD0
  have hS : va_S A s.heap s.heap [] := va_S.rf
  have hl := lv_entry ([.ref (ad 0), .int p1, .ref o]) (n := 4) (Nat.le_of_ble_eq_true rfl)
  rw [lg_entry_eq]
  generalize (lg_sl ([.ref (ad 0), .int p1, .ref o]) ++ List.replicate (4 - (lg_sl ([.ref (ad 0), .int p1, .ref o])).length) Slot.unset).toArray = ls at hl ⊢
  have hl : lv_has ls 4 [(0, .ref (ad 0)), (1, .int p1), (2, .ref o)] := hl
  have hS9 : CallFix p m c cL_where 4 s _ wsL_where RL := ⟨hx, hb, hml, hown, hts⟩
  refine lv_aload_n hx hb dL_where_0 rfl (lv_at hl 2 rfl) ?_
  refine lv_iconst (v := 0) hx hb dL_where_1 (by decide) ?_
  refine lv_aload_n hx hb dL_where_2 rfl (lv_at hl 0 rfl) ?_
  refine lv_iload_n hx hb dL_where_3 rfl (lv_at hl 1 rfl) ?_
  have hPC : va_P D vwCl (wC ad cA σ) s.heap := hP.lf
  have hDC : va_D A (wC ad cA σ) := hD.lf
  have hF9 := gFree hDC hS hA
  have hrun := gx_runV (p := p) (e := e) (below := below) (meth := meth) (H := s.heap) (locs := []) (R := (headSpec wsL_where ({ frames := 8, cells := 1, slots := 6, locals := 125 } : Room)).room) (A := A) (st0 := [.int p1, .ref (ad 0), .int 0, .ref o]) (As := [.int p1]) (rest := [.int 0, .ref o]) (Qc := gQXi D (wC ad cA) (tC cA) _ res) hS9 (tyc_T_where l D ad cA _ σ p1 _ hl9 hF) (cwV 1 hts gL_where_X4_where rfl rfl rfl hd_X4_where ⟨by decide, by decide⟩) hOK (tH_C cA cO hK) hPC hDC hS hA hNN (ci := 4) (q0 := 0) (N := 12) rfl (wC_0 ad cA σ) rfl hl.1 rfl (Nat.le_of_ble_eq_true rfl) dL_where_4 ⟨by decide, by decide⟩
  refine gl_runi (rest2 := .ref (ad 0) :: [.int p1]) hrun hDC hS hA (fun E ce q9 τ H locs hres hP1 hD1 hfr hS hce hcv hcl => ?_) (fun r τ H locs hres hP1 hD1 hfr hS => ?_)
  · obtain ⟨k, rfl, rfl⟩ := hres
    obtain ⟨hP, hD⟩ := gl_join hP hD hfr hF9 hP1 hD1
    have hP : va_P D vwCl (wH ad cA o cO τ g) H := hP
    have hD : va_D A (wH ad cA o cO τ g) := hD
    have hc : (k = 2 ∧ kk = 1) := by
      rcases k with _ | _ | _ | k
      · revert hk; simp [kOf, List.idxOf?, List.findIdx?, List.findIdx?.go]; try omega
      · revert hk; simp [kOf, List.idxOf?, List.findIdx?, List.findIdx?.go]; try omega
      · revert hk; simp [kOf, List.idxOf?, List.findIdx?, List.findIdx?.go]; try omega
      · exfalso; revert hk; simp [kOf, List.idxOf?, List.findIdx?, List.findIdx?.go]
    obtain ⟨rfl, rfl⟩ := hc
    refine vx_catch (own := RL) (name := exn 3) hown (tableOf []) (⟨0, 9, 12, 36⟩ : ExceptionTableEntry) (tableOf []) (by rw [htab]; rfl) (fun z hz => nomatch hz) (by decide) (by decide) (hCL _ (List.mem_of_getElem? (i := 2) rfl) _) (gNw_use hOK.2.2.1 (List.mem_of_getElem? (i := 2) rfl)) hce hcv hcl ?_
    refine lv_astore_n (lv' := [(3, .ref q9), (0, .ref (ad 0)), (1, .int p1), (2, .ref o)]) hx hb dL_where_12 rfl hl (by decide) rfl (fun ls hl => ?_)
    refine lv_iconst (v := 1) hx hb dL_where_13 (by decide) ?_
    exact W.iret (v := 1) hx hb hr (fun t ht hW => ⟨⟨1, (τ, g), rfl, ⟨rfl, rfl, fun h => absurd h (by decide)⟩, by rw [ht]; exact hP, va_K.moved hW.alike hK, hD⟩, hS.F ht⟩) hS.2.2 dL_where_14 hlocks
  · subst hres
    obtain ⟨hP, hD⟩ := gl_join hP hD hfr hF9 hP1 hD1
    have hP : va_P D vwCl (wH ad cA o cO τ g) H := hP
    have hD : va_D A (wH ad cA o cO τ g) := hD
    obtain rfl : kk = 0 := by revert hk; simp [kOf]; try omega
    refine lv_i2l (v := r.toInt64) hx hb dL_where_7 rfl ?_
    refine va_last hx hb hK hP hD hS 32 26 (wH_32 ad cA o cO τ g) (tH_26 cA cO) vp_in_01 dL_where_8 (fun H locs hP hD hS => ?_)
    rw [wHs_32, sb_cl0] at hP hD
    refine lv_goto (tgt := 15) hx hb dL_where_9 (by decide) ?_
    refine lv_iconst (v := 0) hx hb dL_where_15 (by decide) ?_
    refine W.widen (k := 1) (n := 6) (by omega) (by omega) ?_
    exact W.iret (v := 0) hx hb hr (fun t ht hW => ⟨⟨0, (τ, vp_updL g 0 r.toInt64), rfl, ⟨rfl, rfl, fun _ => rfl⟩, by rw [ht]; exact hP, va_K.moved hW.alike hK, hD⟩, hS.F ht⟩) hS.2.2 dL_where_16 hlocks
set_option maxHeartbeats 4000000 in
set_option maxRecDepth 100000 in
theorem tyh_carried (l : Launch) (hl9 : l.stackTraces = false) (D : va_G) (ad : Nat → Nat) (cA : Nat → ClassId) (o : Nat) (cO : ClassId) (sz : Nat) (σ : tyS) (g : Nat → Int64) (p1 : Int32) (res : tyX) (kk : Nat) (hF : tyf_T_carried σ p1 = some res) (hk : kOf [3] res.1 = some kk) : hMet l yL_carried wsL_carried ({ frames := 8, cells := 1, slots := 6, locals := 124 } : Room) D ad cA o cO [.ref (ad 0), .int p1, .ref o] sz σ g kk res.2.1.toInt64 res.2.2 := by
  refine ty_ofWH (cc := cL_carried) (maxL := 4) (ret := (some .int)) (hh := [(0, 9, 12, 36)]) (by decide) rfl ?_
  intro p e s m args below meth c s₁ B hml hv
  obtain ⟨rfl, hsz, hP, hK, hD0, hNN, hOK, hNC, hCL⟩ := hv
  have hx := B.exec
  have hb := B.bytes
  have hr := B.returns
  have hts := atoms_spec (ws := wsL_carried) B.pre
  have hown : s.vm.findClass RL = some m.cls := findClass_of_methodNamed B.named
  have hlocks := B.notSynchronized
  have htab : c.exceptionTable.toList = tableOf [(0, 9, 12, 36)] := vx_table (x := yL_carried) B (hts _ List.mem_cons_self)
  subst hsz
  have hD := hD0.self (sz := s.heap.size)
  generalize hAe : va_A (wH ad cA o cO σ g) s.heap.size = A at hD hOK ⊢
  have hA : ∀ q : Nat, s.heap.size ≤ q → A q := fun q h => by rw [← hAe]; exact Or.inr h
  clear hAe hD0
  have hS : va_S A s.heap s.heap [] := va_S.rf
  have hl := lv_entry ([.ref (ad 0), .int p1, .ref o]) (n := 4) (Nat.le_of_ble_eq_true rfl)
  rw [lg_entry_eq]
  generalize (lg_sl ([.ref (ad 0), .int p1, .ref o]) ++ List.replicate (4 - (lg_sl ([.ref (ad 0), .int p1, .ref o])).length) Slot.unset).toArray = ls at hl ⊢
  have hl : lv_has ls 4 [(0, .ref (ad 0)), (1, .int p1), (2, .ref o)] := hl
  have hS9 : CallFix p m c cL_carried 4 s _ wsL_carried RL := ⟨hx, hb, hml, hown, hts⟩
  refine lv_aload_n hx hb dL_carried_0 rfl (lv_at hl 2 rfl) ?_
  refine lv_iconst (v := 0) hx hb dL_carried_1 (by decide) ?_
  refine lv_aload_n hx hb dL_carried_2 rfl (lv_at hl 0 rfl) ?_
  refine lv_iload_n hx hb dL_carried_3 rfl (lv_at hl 1 rfl) ?_
  have hPC : va_P D vwCl (wC ad cA σ) s.heap := hP.lf
  have hDC : va_D A (wC ad cA σ) := hD.lf
  have hF9 := gFree hDC hS hA
  have hrun := gx_runV (p := p) (e := e) (below := below) (meth := meth) (H := s.heap) (locs := []) (R := (headSpec wsL_carried ({ frames := 8, cells := 1, slots := 6, locals := 124 } : Room)).room) (A := A) (st0 := [.int p1, .ref (ad 0), .int 0, .ref o]) (As := [.int p1]) (rest := [.int 0, .ref o]) (Qc := gQXi D (wC ad cA) (tC cA) _ res) hS9 (tyc_T_carried l D ad cA _ σ p1 _ hl9 hF) (cwV 1 hts gL_carried_X4_carried rfl rfl rfl hd_X4_carried ⟨by decide, by decide⟩) hOK (tH_C cA cO hK) hPC hDC hS hA hNN (ci := 4) (q0 := 0) (N := 12) rfl (wC_0 ad cA σ) rfl hl.1 rfl (Nat.le_of_ble_eq_true rfl) dL_carried_4 ⟨by decide, by decide⟩
  refine gl_runi (rest2 := .ref (ad 0) :: [.int p1]) hrun hDC hS hA (fun E ce q9 τ H locs hres hP1 hD1 hfr hS hce hcv hcl => ?_) (fun r τ H locs hres hP1 hD1 hfr hS => ?_)
  · obtain ⟨k, rfl, rfl⟩ := hres
    obtain ⟨hP, hD⟩ := gl_join hP hD hfr hF9 hP1 hD1
    have hP : va_P D vwCl (wH ad cA o cO τ g) H := hP
    have hD : va_D A (wH ad cA o cO τ g) := hD
    have hc : (k = 2 ∧ kk = 1) := by
      rcases k with _ | _ | _ | k
      · revert hk; simp [kOf, List.idxOf?, List.findIdx?, List.findIdx?.go]; try omega
      · revert hk; simp [kOf, List.idxOf?, List.findIdx?, List.findIdx?.go]; try omega
      · revert hk; simp [kOf, List.idxOf?, List.findIdx?, List.findIdx?.go]; try omega
      · exfalso; revert hk; simp [kOf, List.idxOf?, List.findIdx?, List.findIdx?.go]
    obtain ⟨rfl, rfl⟩ := hc
    refine vx_catch (own := RL) (name := exn 3) hown (tableOf []) (⟨0, 9, 12, 36⟩ : ExceptionTableEntry) (tableOf []) (by rw [htab]; rfl) (fun z hz => nomatch hz) (by decide) (by decide) (hCL _ (List.mem_of_getElem? (i := 2) rfl) _) (gNw_use hOK.2.2.1 (List.mem_of_getElem? (i := 2) rfl)) hce hcv hcl ?_
    refine lv_astore_n (lv' := [(3, .ref q9), (0, .ref (ad 0)), (1, .int p1), (2, .ref o)]) hx hb dL_carried_12 rfl hl (by decide) rfl (fun ls hl => ?_)
    refine lv_iconst (v := 1) hx hb dL_carried_13 (by decide) ?_
    exact W.iret (v := 1) hx hb hr (fun t ht hW => ⟨⟨1, (τ, g), rfl, ⟨rfl, rfl, fun h => absurd h (by decide)⟩, by rw [ht]; exact hP, va_K.moved hW.alike hK, hD⟩, hS.F ht⟩) hS.2.2 dL_carried_14 hlocks
  · subst hres
    obtain ⟨hP, hD⟩ := gl_join hP hD hfr hF9 hP1 hD1
    have hP : va_P D vwCl (wH ad cA o cO τ g) H := hP
    have hD : va_D A (wH ad cA o cO τ g) := hD
    obtain rfl : kk = 0 := by revert hk; simp [kOf]; try omega
    refine lv_i2l (v := r.toInt64) hx hb dL_carried_7 rfl ?_
    refine va_last hx hb hK hP hD hS 32 26 (wH_32 ad cA o cO τ g) (tH_26 cA cO) vp_in_01 dL_carried_8 (fun H locs hP hD hS => ?_)
    rw [wHs_32, sb_cl0] at hP hD
    refine lv_goto (tgt := 15) hx hb dL_carried_9 (by decide) ?_
    refine lv_iconst (v := 0) hx hb dL_carried_15 (by decide) ?_
    refine W.widen (k := 1) (n := 6) (by omega) (by omega) ?_
    exact W.iret (v := 0) hx hb hr (fun t ht hW => ⟨⟨0, (τ, vp_updL g 0 r.toInt64), rfl, ⟨rfl, rfl, fun _ => rfl⟩, by rw [ht]; exact hP, va_K.moved hW.alike hK, hD⟩, hS.F ht⟩) hS.2.2 dL_carried_16 hlocks
set_option maxHeartbeats 4000000 in
set_option maxRecDepth 100000 in
theorem tyh_promised (l : Launch) (hl9 : l.stackTraces = false) (D : va_G) (ad : Nat → Nat) (cA : Nat → ClassId) (o : Nat) (cO : ClassId) (sz : Nat) (σ : tyS) (g : Nat → Int64) (p1 : Int32) (res : tyX) (kk : Nat) (hF : tyf_T_promised σ p1 = some res) (hk : kOf [3] res.1 = some kk) : hMet l yL_promised wsL_promised ({ frames := 8, cells := 1, slots := 6, locals := 124 } : Room) D ad cA o cO [.ref (ad 0), .int p1, .ref o] sz σ g kk res.2.1.toInt64 res.2.2 := by
  refine ty_ofWH (cc := cL_promised) (maxL := 4) (ret := (some .int)) (hh := [(0, 9, 12, 36)]) (by decide) rfl ?_
  intro p e s m args below meth c s₁ B hml hv
  obtain ⟨rfl, hsz, hP, hK, hD0, hNN, hOK, hNC, hCL⟩ := hv
  have hx := B.exec
  have hb := B.bytes
  have hr := B.returns
  have hts := atoms_spec (ws := wsL_promised) B.pre
  have hown : s.vm.findClass RL = some m.cls := findClass_of_methodNamed B.named
  have hlocks := B.notSynchronized
  have htab : c.exceptionTable.toList = tableOf [(0, 9, 12, 36)] := vx_table (x := yL_promised) B (hts _ List.mem_cons_self)
  subst hsz
  have hD := hD0.self (sz := s.heap.size)
  generalize hAe : va_A (wH ad cA o cO σ g) s.heap.size = A at hD hOK ⊢
  have hA : ∀ q : Nat, s.heap.size ≤ q → A q := fun q h => by rw [← hAe]; exact Or.inr h
  clear hAe hD0
  have hS : va_S A s.heap s.heap [] := va_S.rf
  have hl := lv_entry ([.ref (ad 0), .int p1, .ref o]) (n := 4) (Nat.le_of_ble_eq_true rfl)
  rw [lg_entry_eq]
  generalize (lg_sl ([.ref (ad 0), .int p1, .ref o]) ++ List.replicate (4 - (lg_sl ([.ref (ad 0), .int p1, .ref o])).length) Slot.unset).toArray = ls at hl ⊢
  have hl : lv_has ls 4 [(0, .ref (ad 0)), (1, .int p1), (2, .ref o)] := hl
  have hS9 : CallFix p m c cL_promised 4 s _ wsL_promised RL := ⟨hx, hb, hml, hown, hts⟩
  refine lv_aload_n hx hb dL_promised_0 rfl (lv_at hl 2 rfl) ?_
  refine lv_iconst (v := 0) hx hb dL_promised_1 (by decide) ?_
  refine lv_aload_n hx hb dL_promised_2 rfl (lv_at hl 0 rfl) ?_
  refine lv_iload_n hx hb dL_promised_3 rfl (lv_at hl 1 rfl) ?_
  have hPC : va_P D vwCl (wC ad cA σ) s.heap := hP.lf
  have hDC : va_D A (wC ad cA σ) := hD.lf
  have hF9 := gFree hDC hS hA
  have hrun := gx_runV (p := p) (e := e) (below := below) (meth := meth) (H := s.heap) (locs := []) (R := (headSpec wsL_promised ({ frames := 8, cells := 1, slots := 6, locals := 124 } : Room)).room) (A := A) (st0 := [.int p1, .ref (ad 0), .int 0, .ref o]) (As := [.int p1]) (rest := [.int 0, .ref o]) (Qc := gQXi D (wC ad cA) (tC cA) _ res) hS9 (tyc_T_promised l D ad cA _ σ p1 _ hl9 hF) (cwV 1 hts gL_promised_X4_promised rfl rfl rfl hd_X4_promised ⟨by decide, by decide⟩) hOK (tH_C cA cO hK) hPC hDC hS hA hNN (ci := 4) (q0 := 0) (N := 12) rfl (wC_0 ad cA σ) rfl hl.1 rfl (Nat.le_of_ble_eq_true rfl) dL_promised_4 ⟨by decide, by decide⟩
  refine gl_runi (rest2 := .ref (ad 0) :: [.int p1]) hrun hDC hS hA (fun E ce q9 τ H locs hres hP1 hD1 hfr hS hce hcv hcl => ?_) (fun r τ H locs hres hP1 hD1 hfr hS => ?_)
  · obtain ⟨k, rfl, rfl⟩ := hres
    obtain ⟨hP, hD⟩ := gl_join hP hD hfr hF9 hP1 hD1
    have hP : va_P D vwCl (wH ad cA o cO τ g) H := hP
    have hD : va_D A (wH ad cA o cO τ g) := hD
    have hc : (k = 2 ∧ kk = 1) := by
      rcases k with _ | _ | _ | k
      · revert hk; simp [kOf, List.idxOf?, List.findIdx?, List.findIdx?.go]; try omega
      · revert hk; simp [kOf, List.idxOf?, List.findIdx?, List.findIdx?.go]; try omega
      · revert hk; simp [kOf, List.idxOf?, List.findIdx?, List.findIdx?.go]; try omega
      · exfalso; revert hk; simp [kOf, List.idxOf?, List.findIdx?, List.findIdx?.go]
    obtain ⟨rfl, rfl⟩ := hc
    refine vx_catch (own := RL) (name := exn 3) hown (tableOf []) (⟨0, 9, 12, 36⟩ : ExceptionTableEntry) (tableOf []) (by rw [htab]; rfl) (fun z hz => nomatch hz) (by decide) (by decide) (hCL _ (List.mem_of_getElem? (i := 2) rfl) _) (gNw_use hOK.2.2.1 (List.mem_of_getElem? (i := 2) rfl)) hce hcv hcl ?_
    refine lv_astore_n (lv' := [(3, .ref q9), (0, .ref (ad 0)), (1, .int p1), (2, .ref o)]) hx hb dL_promised_12 rfl hl (by decide) rfl (fun ls hl => ?_)
    refine lv_iconst (v := 1) hx hb dL_promised_13 (by decide) ?_
    exact W.iret (v := 1) hx hb hr (fun t ht hW => ⟨⟨1, (τ, g), rfl, ⟨rfl, rfl, fun h => absurd h (by decide)⟩, by rw [ht]; exact hP, va_K.moved hW.alike hK, hD⟩, hS.F ht⟩) hS.2.2 dL_promised_14 hlocks
  · subst hres
    obtain ⟨hP, hD⟩ := gl_join hP hD hfr hF9 hP1 hD1
    have hP : va_P D vwCl (wH ad cA o cO τ g) H := hP
    have hD : va_D A (wH ad cA o cO τ g) := hD
    obtain rfl : kk = 0 := by revert hk; simp [kOf]; try omega
    refine lv_i2l (v := r.toInt64) hx hb dL_promised_7 rfl ?_
    refine va_last hx hb hK hP hD hS 32 26 (wH_32 ad cA o cO τ g) (tH_26 cA cO) vp_in_01 dL_promised_8 (fun H locs hP hD hS => ?_)
    rw [wHs_32, sb_cl0] at hP hD
    refine lv_goto (tgt := 15) hx hb dL_promised_9 (by decide) ?_
    refine lv_iconst (v := 0) hx hb dL_promised_15 (by decide) ?_
    refine W.widen (k := 1) (n := 6) (by omega) (by omega) ?_
    exact W.iret (v := 0) hx hb hr (fun t ht hW => ⟨⟨0, (τ, vp_updL g 0 r.toInt64), rfl, ⟨rfl, rfl, fun _ => rfl⟩, by rw [ht]; exact hP, va_K.moved hW.alike hK, hD⟩, hS.F ht⟩) hS.2.2 dL_promised_16 hlocks
set_option maxHeartbeats 4000000 in
set_option maxRecDepth 100000 in
theorem tyh_call (l : Launch) (hl9 : l.stackTraces = false) (D : va_G) (ad : Nat → Nat) (cA : Nat → ClassId) (o : Nat) (cO : ClassId) (sz : Nat) (σ : tyS) (g : Nat → Int64) (p1 : Int32) (p2 : Int32) (res : tyX) (kk : Nat) (hF : tyf_T_call σ p1 p2 = some res) (hk : kOf [1, 2] res.1 = some kk) : hMet l yL_call wsL_call ({ frames := 8, cells := 1, slots := 6, locals := 125 } : Room) D ad cA o cO [.ref (ad 0), .int p1, .int p2, .ref o] sz σ g kk res.2.1.toInt64 res.2.2 := by
  refine ty_ofWH (cc := cL_call) (maxL := 5) (ret := (some .int)) (hh := [(0, 10, 13, 13), (0, 10, 17, 15)]) (by decide) rfl ?_
  intro p e s m args below meth c s₁ B hml hv
  obtain ⟨rfl, hsz, hP, hK, hD0, hNN, hOK, hNC, hCL⟩ := hv
  have hx := B.exec
  have hb := B.bytes
  have hr := B.returns
  have hts := atoms_spec (ws := wsL_call) B.pre
  have hown : s.vm.findClass RL = some m.cls := findClass_of_methodNamed B.named
  have hlocks := B.notSynchronized
  have htab : c.exceptionTable.toList = tableOf [(0, 10, 13, 13), (0, 10, 17, 15)] := vx_table (x := yL_call) B (hts _ List.mem_cons_self)
  subst hsz
  have hD := hD0.self (sz := s.heap.size)
  generalize hAe : va_A (wH ad cA o cO σ g) s.heap.size = A at hD hOK ⊢
  have hA : ∀ q : Nat, s.heap.size ≤ q → A q := fun q h => by rw [← hAe]; exact Or.inr h
  clear hAe hD0
  have hS : va_S A s.heap s.heap [] := va_S.rf
  have hl := lv_entry ([.ref (ad 0), .int p1, .int p2, .ref o]) (n := 5) (Nat.le_of_ble_eq_true rfl)
  rw [lg_entry_eq]
  generalize (lg_sl ([.ref (ad 0), .int p1, .int p2, .ref o]) ++ List.replicate (5 - (lg_sl ([.ref (ad 0), .int p1, .int p2, .ref o])).length) Slot.unset).toArray = ls at hl ⊢
  have hl : lv_has ls 5 [(0, .ref (ad 0)), (1, .int p1), (2, .int p2), (3, .ref o)] := hl
  have hS9 : CallFix p m c cL_call 5 s _ wsL_call RL := ⟨hx, hb, hml, hown, hts⟩
  refine lv_aload_n hx hb dL_call_0 rfl (lv_at hl 3 rfl) ?_
  refine lv_iconst (v := 0) hx hb dL_call_1 (by decide) ?_
  refine lv_aload_n hx hb dL_call_2 rfl (lv_at hl 0 rfl) ?_
  refine lv_iload_n hx hb dL_call_3 rfl (lv_at hl 1 rfl) ?_
  refine lv_iload_n hx hb dL_call_4 rfl (lv_at hl 2 rfl) ?_
  have hPC : va_P D vwCl (wC ad cA σ) s.heap := hP.lf
  have hDC : va_D A (wC ad cA σ) := hD.lf
  have hF9 := gFree hDC hS hA
  have hrun := gx_runV (p := p) (e := e) (below := below) (meth := meth) (H := s.heap) (locs := []) (R := (headSpec wsL_call ({ frames := 8, cells := 1, slots := 6, locals := 125 } : Room)).room) (A := A) (st0 := [.int p2, .int p1, .ref (ad 0), .int 0, .ref o]) (As := [.int p1, .int p2]) (rest := [.int 0, .ref o]) (Qc := gQXi D (wC ad cA) (tC cA) _ res) hS9 (tyc_T_call l D ad cA _ σ p1 p2 _ hl9 hF) (cwV 2 hts gL_call_X4_call rfl rfl rfl hd_X4_call ⟨by decide, by decide⟩) hOK (tH_C cA cO hK) hPC hDC hS hA hNN (ci := 4) (q0 := 0) (N := 12) rfl (wC_0 ad cA σ) rfl hl.1 rfl (Nat.le_of_ble_eq_true rfl) dL_call_5 ⟨by decide, by decide⟩
  refine gl_runi (rest2 := .ref (ad 0) :: [.int p1, .int p2]) hrun hDC hS hA (fun E ce q9 τ H locs hres hP1 hD1 hfr hS hce hcv hcl => ?_) (fun r τ H locs hres hP1 hD1 hfr hS => ?_)
  · obtain ⟨k, rfl, rfl⟩ := hres
    obtain ⟨hP, hD⟩ := gl_join hP hD hfr hF9 hP1 hD1
    have hP : va_P D vwCl (wH ad cA o cO τ g) H := hP
    have hD : va_D A (wH ad cA o cO τ g) := hD
    have hc : (k = 0 ∧ kk = 1) ∨ (k = 1 ∧ kk = 2) := by
      rcases k with _ | _ | _ | k
      · revert hk; simp [kOf, List.idxOf?, List.findIdx?, List.findIdx?.go]; try omega
      · revert hk; simp [kOf, List.idxOf?, List.findIdx?, List.findIdx?.go]; try omega
      · revert hk; simp [kOf, List.idxOf?, List.findIdx?, List.findIdx?.go]; try omega
      · exfalso; revert hk; simp [kOf, List.idxOf?, List.findIdx?, List.findIdx?.go]
    rcases hc with ⟨rfl, rfl⟩ | ⟨rfl, rfl⟩
    · refine vx_catch (own := RL) (name := exn 1) hown (tableOf []) (⟨0, 10, 13, 13⟩ : ExceptionTableEntry) (tableOf [(0, 10, 17, 15)]) (by rw [htab]; rfl) (fun z hz => nomatch hz) (by decide) (by decide) (hCL _ (List.mem_of_getElem? (i := 0) rfl) _) (gNw_use hOK.2.2.1 (List.mem_of_getElem? (i := 0) rfl)) hce hcv hcl ?_
      refine lv_astore (lv' := [(4, .ref q9), (0, .ref (ad 0)), (1, .int p1), (2, .int p2), (3, .ref o)]) hx hb dL_call_13 hl (by decide) rfl (fun ls hl => ?_)
      refine lv_iconst (v := 1) hx hb dL_call_15 (by decide) ?_
      exact W.iret (v := 1) hx hb hr (fun t ht hW => ⟨⟨1, (τ, g), rfl, ⟨rfl, rfl, fun h => absurd h (by decide)⟩, by rw [ht]; exact hP, va_K.moved hW.alike hK, hD⟩, hS.F ht⟩) hS.2.2 dL_call_16 hlocks
    · refine vx_catch (own := RL) (name := exn 2) hown (tableOf [(0, 10, 13, 13)]) (⟨0, 10, 17, 15⟩ : ExceptionTableEntry) (tableOf []) (by rw [htab]; rfl) (fun z hz => by obtain rfl := List.mem_singleton.mp hz; exact Or.inr ⟨by decide, _, hCL _ (List.mem_of_getElem? (i := 0) rfl) _, hNC (exn 2, exn 1) (List.mem_of_getElem? (i := 2) rfl)⟩) (by decide) (by decide) (hCL _ (List.mem_of_getElem? (i := 1) rfl) _) (gNw_use hOK.2.2.1 (List.mem_of_getElem? (i := 1) rfl)) hce hcv hcl ?_
      refine lv_astore (lv' := [(4, .ref q9), (0, .ref (ad 0)), (1, .int p1), (2, .int p2), (3, .ref o)]) hx hb dL_call_17 hl (by decide) rfl (fun ls hl => ?_)
      refine lv_iconst (v := 2) hx hb dL_call_19 (by decide) ?_
      exact W.iret (v := 2) hx hb hr (fun t ht hW => ⟨⟨2, (τ, g), rfl, ⟨rfl, rfl, fun h => absurd h (by decide)⟩, by rw [ht]; exact hP, va_K.moved hW.alike hK, hD⟩, hS.F ht⟩) hS.2.2 dL_call_20 hlocks
  · subst hres
    obtain ⟨hP, hD⟩ := gl_join hP hD hfr hF9 hP1 hD1
    have hP : va_P D vwCl (wH ad cA o cO τ g) H := hP
    have hD : va_D A (wH ad cA o cO τ g) := hD
    obtain rfl : kk = 0 := by revert hk; simp [kOf]; try omega
    refine lv_i2l (v := r.toInt64) hx hb dL_call_8 rfl ?_
    refine va_last hx hb hK hP hD hS 32 26 (wH_32 ad cA o cO τ g) (tH_26 cA cO) vp_in_01 dL_call_9 (fun H locs hP hD hS => ?_)
    rw [wHs_32, sb_cl0] at hP hD
    refine lv_goto (tgt := 21) hx hb dL_call_10 (by decide) ?_
    refine lv_iconst (v := 0) hx hb dL_call_21 (by decide) ?_
    refine W.widen (k := 1) (n := 6) (by omega) (by omega) ?_
    exact W.iret (v := 0) hx hb hr (fun t ht hW => ⟨⟨0, (τ, vp_updL g 0 r.toInt64), rfl, ⟨rfl, rfl, fun _ => rfl⟩, by rw [ht]; exact hP, va_K.moved hW.alike hK, hD⟩, hS.F ht⟩) hS.2.2 dL_call_22 hlocks
set_option maxHeartbeats 4000000 in
set_option maxRecDepth 100000 in
theorem tyh_ask (l : Launch) (hl9 : l.stackTraces = false) (D : va_G) (ad : Nat → Nat) (cA : Nat → ClassId) (o : Nat) (cO : ClassId) (sz : Nat) (σ : tyS) (g : Nat → Int64) (p1 : Int32) (p2 : Int32) (res : tyX) (kk : Nat) (hF : tyf_T_ask σ p1 p2 = some res) (hk : kOf [3, 1, 2] res.1 = some kk) : hMet l yL_ask wsL_ask ({ frames := 8, cells := 1, slots := 6, locals := 127 } : Room) D ad cA o cO [.ref (ad 0), .int p1, .int p2, .ref o] sz σ g kk res.2.1.toInt64 res.2.2 := by
  refine ty_ofWH (cc := cL_ask) (maxL := 5) (ret := (some .int)) (hh := [(0, 10, 13, 36), (0, 10, 17, 13), (0, 10, 21, 15)]) (by decide) rfl ?_
  intro p e s m args below meth c s₁ B hml hv
  obtain ⟨rfl, hsz, hP, hK, hD0, hNN, hOK, hNC, hCL⟩ := hv
  have hx := B.exec
  have hb := B.bytes
  have hr := B.returns
  have hts := atoms_spec (ws := wsL_ask) B.pre
  have hown : s.vm.findClass RL = some m.cls := findClass_of_methodNamed B.named
  have hlocks := B.notSynchronized
  have htab : c.exceptionTable.toList = tableOf [(0, 10, 13, 36), (0, 10, 17, 13), (0, 10, 21, 15)] := vx_table (x := yL_ask) B (hts _ List.mem_cons_self)
  subst hsz
  have hD := hD0.self (sz := s.heap.size)
  generalize hAe : va_A (wH ad cA o cO σ g) s.heap.size = A at hD hOK ⊢
  have hA : ∀ q : Nat, s.heap.size ≤ q → A q := fun q h => by rw [← hAe]; exact Or.inr h
  clear hAe hD0
  have hS : va_S A s.heap s.heap [] := va_S.rf
  have hl := lv_entry ([.ref (ad 0), .int p1, .int p2, .ref o]) (n := 5) (Nat.le_of_ble_eq_true rfl)
  rw [lg_entry_eq]
  generalize (lg_sl ([.ref (ad 0), .int p1, .int p2, .ref o]) ++ List.replicate (5 - (lg_sl ([.ref (ad 0), .int p1, .int p2, .ref o])).length) Slot.unset).toArray = ls at hl ⊢
  have hl : lv_has ls 5 [(0, .ref (ad 0)), (1, .int p1), (2, .int p2), (3, .ref o)] := hl
  have hS9 : CallFix p m c cL_ask 5 s _ wsL_ask RL := ⟨hx, hb, hml, hown, hts⟩
  refine lv_aload_n hx hb dL_ask_0 rfl (lv_at hl 3 rfl) ?_
  refine lv_iconst (v := 0) hx hb dL_ask_1 (by decide) ?_
  refine lv_aload_n hx hb dL_ask_2 rfl (lv_at hl 0 rfl) ?_
  refine lv_iload_n hx hb dL_ask_3 rfl (lv_at hl 1 rfl) ?_
  refine lv_iload_n hx hb dL_ask_4 rfl (lv_at hl 2 rfl) ?_
  have hPC : va_P D vwCl (wC ad cA σ) s.heap := hP.lf
  have hDC : va_D A (wC ad cA σ) := hD.lf
  have hF9 := gFree hDC hS hA
  have hrun := gx_runV (p := p) (e := e) (below := below) (meth := meth) (H := s.heap) (locs := []) (R := (headSpec wsL_ask ({ frames := 8, cells := 1, slots := 6, locals := 127 } : Room)).room) (A := A) (st0 := [.int p2, .int p1, .ref (ad 0), .int 0, .ref o]) (As := [.int p1, .int p2]) (rest := [.int 0, .ref o]) (Qc := gQXi D (wC ad cA) (tC cA) _ res) hS9 (tyc_T_ask l D ad cA _ σ p1 p2 _ hl9 hF) (cwV 2 hts gL_ask_X4_ask rfl rfl rfl hd_X4_ask ⟨by decide, by decide⟩) hOK (tH_C cA cO hK) hPC hDC hS hA hNN (ci := 4) (q0 := 0) (N := 12) rfl (wC_0 ad cA σ) rfl hl.1 rfl (Nat.le_of_ble_eq_true rfl) dL_ask_5 ⟨by decide, by decide⟩
  refine gl_runi (rest2 := .ref (ad 0) :: [.int p1, .int p2]) hrun hDC hS hA (fun E ce q9 τ H locs hres hP1 hD1 hfr hS hce hcv hcl => ?_) (fun r τ H locs hres hP1 hD1 hfr hS => ?_)
  · obtain ⟨k, rfl, rfl⟩ := hres
    obtain ⟨hP, hD⟩ := gl_join hP hD hfr hF9 hP1 hD1
    have hP : va_P D vwCl (wH ad cA o cO τ g) H := hP
    have hD : va_D A (wH ad cA o cO τ g) := hD
    have hc : (k = 2 ∧ kk = 1) ∨ (k = 0 ∧ kk = 2) ∨ (k = 1 ∧ kk = 3) := by
      rcases k with _ | _ | _ | k
      · revert hk; simp [kOf, List.idxOf?, List.findIdx?, List.findIdx?.go]; try omega
      · revert hk; simp [kOf, List.idxOf?, List.findIdx?, List.findIdx?.go]; try omega
      · revert hk; simp [kOf, List.idxOf?, List.findIdx?, List.findIdx?.go]; try omega
      · exfalso; revert hk; simp [kOf, List.idxOf?, List.findIdx?, List.findIdx?.go]
    rcases hc with ⟨rfl, rfl⟩ | ⟨rfl, rfl⟩ | ⟨rfl, rfl⟩
    · refine vx_catch (own := RL) (name := exn 3) hown (tableOf []) (⟨0, 10, 13, 36⟩ : ExceptionTableEntry) (tableOf [(0, 10, 17, 13), (0, 10, 21, 15)]) (by rw [htab]; rfl) (fun z hz => nomatch hz) (by decide) (by decide) (hCL _ (List.mem_of_getElem? (i := 2) rfl) _) (gNw_use hOK.2.2.1 (List.mem_of_getElem? (i := 2) rfl)) hce hcv hcl ?_
      refine lv_astore (lv' := [(4, .ref q9), (0, .ref (ad 0)), (1, .int p1), (2, .int p2), (3, .ref o)]) hx hb dL_ask_13 hl (by decide) rfl (fun ls hl => ?_)
      refine lv_iconst (v := 1) hx hb dL_ask_15 (by decide) ?_
      exact W.iret (v := 1) hx hb hr (fun t ht hW => ⟨⟨1, (τ, g), rfl, ⟨rfl, rfl, fun h => absurd h (by decide)⟩, by rw [ht]; exact hP, va_K.moved hW.alike hK, hD⟩, hS.F ht⟩) hS.2.2 dL_ask_16 hlocks
    · refine vx_catch (own := RL) (name := exn 1) hown (tableOf [(0, 10, 13, 36)]) (⟨0, 10, 17, 13⟩ : ExceptionTableEntry) (tableOf [(0, 10, 21, 15)]) (by rw [htab]; rfl) (fun z hz => by obtain rfl := List.mem_singleton.mp hz; exact Or.inr ⟨by decide, _, hCL _ (List.mem_of_getElem? (i := 2) rfl) _, hNC (exn 1, exn 3) (List.mem_of_getElem? (i := 1) rfl)⟩) (by decide) (by decide) (hCL _ (List.mem_of_getElem? (i := 0) rfl) _) (gNw_use hOK.2.2.1 (List.mem_of_getElem? (i := 0) rfl)) hce hcv hcl ?_
      refine lv_astore (lv' := [(4, .ref q9), (0, .ref (ad 0)), (1, .int p1), (2, .int p2), (3, .ref o)]) hx hb dL_ask_17 hl (by decide) rfl (fun ls hl => ?_)
      refine lv_iconst (v := 2) hx hb dL_ask_19 (by decide) ?_
      exact W.iret (v := 2) hx hb hr (fun t ht hW => ⟨⟨2, (τ, g), rfl, ⟨rfl, rfl, fun h => absurd h (by decide)⟩, by rw [ht]; exact hP, va_K.moved hW.alike hK, hD⟩, hS.F ht⟩) hS.2.2 dL_ask_20 hlocks
    · refine vx_catch (own := RL) (name := exn 2) hown (tableOf [(0, 10, 13, 36), (0, 10, 17, 13)]) (⟨0, 10, 21, 15⟩ : ExceptionTableEntry) (tableOf []) (by rw [htab]; rfl) (fun z hz => (List.mem_cons.mp hz).elim (fun h9 => by subst h9; exact Or.inr ⟨by decide, _, hCL _ (List.mem_of_getElem? (i := 2) rfl) _, hNC (exn 2, exn 3) (List.mem_of_getElem? (i := 3) rfl)⟩) (fun hz => by obtain rfl := List.mem_singleton.mp hz; exact Or.inr ⟨by decide, _, hCL _ (List.mem_of_getElem? (i := 0) rfl) _, hNC (exn 2, exn 1) (List.mem_of_getElem? (i := 2) rfl)⟩)) (by decide) (by decide) (hCL _ (List.mem_of_getElem? (i := 1) rfl) _) (gNw_use hOK.2.2.1 (List.mem_of_getElem? (i := 1) rfl)) hce hcv hcl ?_
      refine lv_astore (lv' := [(4, .ref q9), (0, .ref (ad 0)), (1, .int p1), (2, .int p2), (3, .ref o)]) hx hb dL_ask_21 hl (by decide) rfl (fun ls hl => ?_)
      refine lv_iconst (v := 3) hx hb dL_ask_23 (by decide) ?_
      exact W.iret (v := 3) hx hb hr (fun t ht hW => ⟨⟨3, (τ, g), rfl, ⟨rfl, rfl, fun h => absurd h (by decide)⟩, by rw [ht]; exact hP, va_K.moved hW.alike hK, hD⟩, hS.F ht⟩) hS.2.2 dL_ask_24 hlocks
  · subst hres
    obtain ⟨hP, hD⟩ := gl_join hP hD hfr hF9 hP1 hD1
    have hP : va_P D vwCl (wH ad cA o cO τ g) H := hP
    have hD : va_D A (wH ad cA o cO τ g) := hD
    obtain rfl : kk = 0 := by revert hk; simp [kOf]; try omega
    refine lv_i2l (v := r.toInt64) hx hb dL_ask_8 rfl ?_
    refine va_last hx hb hK hP hD hS 32 26 (wH_32 ad cA o cO τ g) (tH_26 cA cO) vp_in_01 dL_ask_9 (fun H locs hP hD hS => ?_)
    rw [wHs_32, sb_cl0] at hP hD
    refine lv_goto (tgt := 25) hx hb dL_ask_10 (by decide) ?_
    refine lv_iconst (v := 0) hx hb dL_ask_25 (by decide) ?_
    refine W.widen (k := 1) (n := 6) (by omega) (by omega) ?_
    exact W.iret (v := 0) hx hb hr (fun t ht hW => ⟨⟨0, (τ, vp_updL g 0 r.toInt64), rfl, ⟨rfl, rfl, fun _ => rfl⟩, by rw [ht]; exact hP, va_K.moved hW.alike hK, hD⟩, hS.F ht⟩) hS.2.2 dL_ask_26 hlocks
set_option maxHeartbeats 4000000 in
set_option maxRecDepth 100000 in
theorem tyh_confirm (l : Launch) (hl9 : l.stackTraces = false) (D : va_G) (ad : Nat → Nat) (cA : Nat → ClassId) (o : Nat) (cO : ClassId) (sz : Nat) (σ : tyS) (g : Nat → Int64) (p1 : Int32) (res : tyX) (kk : Nat) (hF : tyf_T_confirm σ p1 = some res) (hk : kOf [3, 2] res.1 = some kk) : hMet l yL_confirm wsL_confirm ({ frames := 8, cells := 1, slots := 6, locals := 125 } : Room) D ad cA o cO [.ref (ad 0), .int p1, .ref o] sz σ g kk res.2.1.toInt64 res.2.2 := by
  refine ty_ofWH (cc := cL_confirm) (maxL := 4) (ret := (some .int)) (hh := [(0, 9, 12, 36), (0, 9, 15, 15)]) (by decide) rfl ?_
  intro p e s m args below meth c s₁ B hml hv
  obtain ⟨rfl, hsz, hP, hK, hD0, hNN, hOK, hNC, hCL⟩ := hv
  have hx := B.exec
  have hb := B.bytes
  have hr := B.returns
  have hts := atoms_spec (ws := wsL_confirm) B.pre
  have hown : s.vm.findClass RL = some m.cls := findClass_of_methodNamed B.named
  have hlocks := B.notSynchronized
  have htab : c.exceptionTable.toList = tableOf [(0, 9, 12, 36), (0, 9, 15, 15)] := vx_table (x := yL_confirm) B (hts _ List.mem_cons_self)
  subst hsz
  have hD := hD0.self (sz := s.heap.size)
  generalize hAe : va_A (wH ad cA o cO σ g) s.heap.size = A at hD hOK ⊢
  have hA : ∀ q : Nat, s.heap.size ≤ q → A q := fun q h => by rw [← hAe]; exact Or.inr h
  clear hAe hD0
  have hS : va_S A s.heap s.heap [] := va_S.rf
  have hl := lv_entry ([.ref (ad 0), .int p1, .ref o]) (n := 4) (Nat.le_of_ble_eq_true rfl)
  rw [lg_entry_eq]
  generalize (lg_sl ([.ref (ad 0), .int p1, .ref o]) ++ List.replicate (4 - (lg_sl ([.ref (ad 0), .int p1, .ref o])).length) Slot.unset).toArray = ls at hl ⊢
  have hl : lv_has ls 4 [(0, .ref (ad 0)), (1, .int p1), (2, .ref o)] := hl
  have hS9 : CallFix p m c cL_confirm 4 s _ wsL_confirm RL := ⟨hx, hb, hml, hown, hts⟩
  refine lv_aload_n hx hb dL_confirm_0 rfl (lv_at hl 2 rfl) ?_
  refine lv_iconst (v := 0) hx hb dL_confirm_1 (by decide) ?_
  refine lv_aload_n hx hb dL_confirm_2 rfl (lv_at hl 0 rfl) ?_
  refine lv_iload_n hx hb dL_confirm_3 rfl (lv_at hl 1 rfl) ?_
  have hPC : va_P D vwCl (wC ad cA σ) s.heap := hP.lf
  have hDC : va_D A (wC ad cA σ) := hD.lf
  have hF9 := gFree hDC hS hA
  have hrun := gx_runV (p := p) (e := e) (below := below) (meth := meth) (H := s.heap) (locs := []) (R := (headSpec wsL_confirm ({ frames := 8, cells := 1, slots := 6, locals := 125 } : Room)).room) (A := A) (st0 := [.int p1, .ref (ad 0), .int 0, .ref o]) (As := [.int p1]) (rest := [.int 0, .ref o]) (Qc := gQXi D (wC ad cA) (tC cA) _ res) hS9 (tyc_T_confirm l D ad cA _ σ p1 _ hl9 hF) (cwV 1 hts gL_confirm_X4_confirm rfl rfl rfl hd_X4_confirm ⟨by decide, by decide⟩) hOK (tH_C cA cO hK) hPC hDC hS hA hNN (ci := 4) (q0 := 0) (N := 12) rfl (wC_0 ad cA σ) rfl hl.1 rfl (Nat.le_of_ble_eq_true rfl) dL_confirm_4 ⟨by decide, by decide⟩
  refine gl_runi (rest2 := .ref (ad 0) :: [.int p1]) hrun hDC hS hA (fun E ce q9 τ H locs hres hP1 hD1 hfr hS hce hcv hcl => ?_) (fun r τ H locs hres hP1 hD1 hfr hS => ?_)
  · obtain ⟨k, rfl, rfl⟩ := hres
    obtain ⟨hP, hD⟩ := gl_join hP hD hfr hF9 hP1 hD1
    have hP : va_P D vwCl (wH ad cA o cO τ g) H := hP
    have hD : va_D A (wH ad cA o cO τ g) := hD
    have hc : (k = 2 ∧ kk = 1) ∨ (k = 1 ∧ kk = 2) := by
      rcases k with _ | _ | _ | k
      · revert hk; simp [kOf, List.idxOf?, List.findIdx?, List.findIdx?.go]; try omega
      · revert hk; simp [kOf, List.idxOf?, List.findIdx?, List.findIdx?.go]; try omega
      · revert hk; simp [kOf, List.idxOf?, List.findIdx?, List.findIdx?.go]; try omega
      · exfalso; revert hk; simp [kOf, List.idxOf?, List.findIdx?, List.findIdx?.go]
    rcases hc with ⟨rfl, rfl⟩ | ⟨rfl, rfl⟩
    · refine vx_catch (own := RL) (name := exn 3) hown (tableOf []) (⟨0, 9, 12, 36⟩ : ExceptionTableEntry) (tableOf [(0, 9, 15, 15)]) (by rw [htab]; rfl) (fun z hz => nomatch hz) (by decide) (by decide) (hCL _ (List.mem_of_getElem? (i := 2) rfl) _) (gNw_use hOK.2.2.1 (List.mem_of_getElem? (i := 2) rfl)) hce hcv hcl ?_
      refine lv_astore_n (lv' := [(3, .ref q9), (0, .ref (ad 0)), (1, .int p1), (2, .ref o)]) hx hb dL_confirm_12 rfl hl (by decide) rfl (fun ls hl => ?_)
      refine lv_iconst (v := 1) hx hb dL_confirm_13 (by decide) ?_
      exact W.iret (v := 1) hx hb hr (fun t ht hW => ⟨⟨1, (τ, g), rfl, ⟨rfl, rfl, fun h => absurd h (by decide)⟩, by rw [ht]; exact hP, va_K.moved hW.alike hK, hD⟩, hS.F ht⟩) hS.2.2 dL_confirm_14 hlocks
    · refine vx_catch (own := RL) (name := exn 2) hown (tableOf [(0, 9, 12, 36)]) (⟨0, 9, 15, 15⟩ : ExceptionTableEntry) (tableOf []) (by rw [htab]; rfl) (fun z hz => by obtain rfl := List.mem_singleton.mp hz; exact Or.inr ⟨by decide, _, hCL _ (List.mem_of_getElem? (i := 2) rfl) _, hNC (exn 2, exn 3) (List.mem_of_getElem? (i := 3) rfl)⟩) (by decide) (by decide) (hCL _ (List.mem_of_getElem? (i := 1) rfl) _) (gNw_use hOK.2.2.1 (List.mem_of_getElem? (i := 1) rfl)) hce hcv hcl ?_
      refine lv_astore_n (lv' := [(3, .ref q9), (0, .ref (ad 0)), (1, .int p1), (2, .ref o)]) hx hb dL_confirm_15 rfl hl (by decide) rfl (fun ls hl => ?_)
      refine lv_iconst (v := 2) hx hb dL_confirm_16 (by decide) ?_
      exact W.iret (v := 2) hx hb hr (fun t ht hW => ⟨⟨2, (τ, g), rfl, ⟨rfl, rfl, fun h => absurd h (by decide)⟩, by rw [ht]; exact hP, va_K.moved hW.alike hK, hD⟩, hS.F ht⟩) hS.2.2 dL_confirm_17 hlocks
  · subst hres
    obtain ⟨hP, hD⟩ := gl_join hP hD hfr hF9 hP1 hD1
    have hP : va_P D vwCl (wH ad cA o cO τ g) H := hP
    have hD : va_D A (wH ad cA o cO τ g) := hD
    obtain rfl : kk = 0 := by revert hk; simp [kOf]; try omega
    refine lv_i2l (v := r.toInt64) hx hb dL_confirm_7 rfl ?_
    refine va_last hx hb hK hP hD hS 32 26 (wH_32 ad cA o cO τ g) (tH_26 cA cO) vp_in_01 dL_confirm_8 (fun H locs hP hD hS => ?_)
    rw [wHs_32, sb_cl0] at hP hD
    refine lv_goto (tgt := 18) hx hb dL_confirm_9 (by decide) ?_
    refine lv_iconst (v := 0) hx hb dL_confirm_18 (by decide) ?_
    refine W.widen (k := 1) (n := 6) (by omega) (by omega) ?_
    exact W.iret (v := 0) hx hb hr (fun t ht hW => ⟨⟨0, (τ, vp_updL g 0 r.toInt64), rfl, ⟨rfl, rfl, fun _ => rfl⟩, by rw [ht]; exact hP, va_K.moved hW.alike hK, hD⟩, hS.F ht⟩) hS.2.2 dL_confirm_19 hlocks
set_option maxHeartbeats 4000000 in
set_option maxRecDepth 100000 in
theorem tyh_resume (l : Launch) (hl9 : l.stackTraces = false) (D : va_G) (ad : Nat → Nat) (cA : Nat → ClassId) (o : Nat) (cO : ClassId) (sz : Nat) (σ : tyS) (g : Nat → Int64) (p1 : Int32) (p2 : Int32) (res : tyX) (kk : Nat) (hF : tyf_T_resume σ p1 p2 = some res) (hk : kOf [3, 2] res.1 = some kk) : hMet l yL_resume wsL_resume ({ frames := 8, cells := 1, slots := 6, locals := 125 } : Room) D ad cA o cO [.ref (ad 0), .int p1, .int p2, .ref o] sz σ g kk res.2.1.toInt64 res.2.2 := by
  refine ty_ofWH (cc := cL_resume) (maxL := 5) (ret := (some .int)) (hh := [(0, 10, 13, 36), (0, 10, 17, 15)]) (by decide) rfl ?_
  intro p e s m args below meth c s₁ B hml hv
  obtain ⟨rfl, hsz, hP, hK, hD0, hNN, hOK, hNC, hCL⟩ := hv
  have hx := B.exec
  have hb := B.bytes
  have hr := B.returns
  have hts := atoms_spec (ws := wsL_resume) B.pre
  have hown : s.vm.findClass RL = some m.cls := findClass_of_methodNamed B.named
  have hlocks := B.notSynchronized
  have htab : c.exceptionTable.toList = tableOf [(0, 10, 13, 36), (0, 10, 17, 15)] := vx_table (x := yL_resume) B (hts _ List.mem_cons_self)
  subst hsz
  have hD := hD0.self (sz := s.heap.size)
  generalize hAe : va_A (wH ad cA o cO σ g) s.heap.size = A at hD hOK ⊢
  have hA : ∀ q : Nat, s.heap.size ≤ q → A q := fun q h => by rw [← hAe]; exact Or.inr h
  clear hAe hD0
  have hS : va_S A s.heap s.heap [] := va_S.rf
  have hl := lv_entry ([.ref (ad 0), .int p1, .int p2, .ref o]) (n := 5) (Nat.le_of_ble_eq_true rfl)
  rw [lg_entry_eq]
  generalize (lg_sl ([.ref (ad 0), .int p1, .int p2, .ref o]) ++ List.replicate (5 - (lg_sl ([.ref (ad 0), .int p1, .int p2, .ref o])).length) Slot.unset).toArray = ls at hl ⊢
  have hl : lv_has ls 5 [(0, .ref (ad 0)), (1, .int p1), (2, .int p2), (3, .ref o)] := hl
  have hS9 : CallFix p m c cL_resume 5 s _ wsL_resume RL := ⟨hx, hb, hml, hown, hts⟩
  refine lv_aload_n hx hb dL_resume_0 rfl (lv_at hl 3 rfl) ?_
  refine lv_iconst (v := 0) hx hb dL_resume_1 (by decide) ?_
  refine lv_aload_n hx hb dL_resume_2 rfl (lv_at hl 0 rfl) ?_
  refine lv_iload_n hx hb dL_resume_3 rfl (lv_at hl 1 rfl) ?_
  refine lv_iload_n hx hb dL_resume_4 rfl (lv_at hl 2 rfl) ?_
  have hPC : va_P D vwCl (wC ad cA σ) s.heap := hP.lf
  have hDC : va_D A (wC ad cA σ) := hD.lf
  have hF9 := gFree hDC hS hA
  have hrun := gx_runV (p := p) (e := e) (below := below) (meth := meth) (H := s.heap) (locs := []) (R := (headSpec wsL_resume ({ frames := 8, cells := 1, slots := 6, locals := 125 } : Room)).room) (A := A) (st0 := [.int p2, .int p1, .ref (ad 0), .int 0, .ref o]) (As := [.int p1, .int p2]) (rest := [.int 0, .ref o]) (Qc := gQXi D (wC ad cA) (tC cA) _ res) hS9 (tyc_T_resume l D ad cA _ σ p1 p2 _ hl9 hF) (cwV 2 hts gL_resume_X4_resume rfl rfl rfl hd_X4_resume ⟨by decide, by decide⟩) hOK (tH_C cA cO hK) hPC hDC hS hA hNN (ci := 4) (q0 := 0) (N := 12) rfl (wC_0 ad cA σ) rfl hl.1 rfl (Nat.le_of_ble_eq_true rfl) dL_resume_5 ⟨by decide, by decide⟩
  refine gl_runi (rest2 := .ref (ad 0) :: [.int p1, .int p2]) hrun hDC hS hA (fun E ce q9 τ H locs hres hP1 hD1 hfr hS hce hcv hcl => ?_) (fun r τ H locs hres hP1 hD1 hfr hS => ?_)
  · obtain ⟨k, rfl, rfl⟩ := hres
    obtain ⟨hP, hD⟩ := gl_join hP hD hfr hF9 hP1 hD1
    have hP : va_P D vwCl (wH ad cA o cO τ g) H := hP
    have hD : va_D A (wH ad cA o cO τ g) := hD
    have hc : (k = 2 ∧ kk = 1) ∨ (k = 1 ∧ kk = 2) := by
      rcases k with _ | _ | _ | k
      · revert hk; simp [kOf, List.idxOf?, List.findIdx?, List.findIdx?.go]; try omega
      · revert hk; simp [kOf, List.idxOf?, List.findIdx?, List.findIdx?.go]; try omega
      · revert hk; simp [kOf, List.idxOf?, List.findIdx?, List.findIdx?.go]; try omega
      · exfalso; revert hk; simp [kOf, List.idxOf?, List.findIdx?, List.findIdx?.go]
    rcases hc with ⟨rfl, rfl⟩ | ⟨rfl, rfl⟩
    · refine vx_catch (own := RL) (name := exn 3) hown (tableOf []) (⟨0, 10, 13, 36⟩ : ExceptionTableEntry) (tableOf [(0, 10, 17, 15)]) (by rw [htab]; rfl) (fun z hz => nomatch hz) (by decide) (by decide) (hCL _ (List.mem_of_getElem? (i := 2) rfl) _) (gNw_use hOK.2.2.1 (List.mem_of_getElem? (i := 2) rfl)) hce hcv hcl ?_
      refine lv_astore (lv' := [(4, .ref q9), (0, .ref (ad 0)), (1, .int p1), (2, .int p2), (3, .ref o)]) hx hb dL_resume_13 hl (by decide) rfl (fun ls hl => ?_)
      refine lv_iconst (v := 1) hx hb dL_resume_15 (by decide) ?_
      exact W.iret (v := 1) hx hb hr (fun t ht hW => ⟨⟨1, (τ, g), rfl, ⟨rfl, rfl, fun h => absurd h (by decide)⟩, by rw [ht]; exact hP, va_K.moved hW.alike hK, hD⟩, hS.F ht⟩) hS.2.2 dL_resume_16 hlocks
    · refine vx_catch (own := RL) (name := exn 2) hown (tableOf [(0, 10, 13, 36)]) (⟨0, 10, 17, 15⟩ : ExceptionTableEntry) (tableOf []) (by rw [htab]; rfl) (fun z hz => by obtain rfl := List.mem_singleton.mp hz; exact Or.inr ⟨by decide, _, hCL _ (List.mem_of_getElem? (i := 2) rfl) _, hNC (exn 2, exn 3) (List.mem_of_getElem? (i := 3) rfl)⟩) (by decide) (by decide) (hCL _ (List.mem_of_getElem? (i := 1) rfl) _) (gNw_use hOK.2.2.1 (List.mem_of_getElem? (i := 1) rfl)) hce hcv hcl ?_
      refine lv_astore (lv' := [(4, .ref q9), (0, .ref (ad 0)), (1, .int p1), (2, .int p2), (3, .ref o)]) hx hb dL_resume_17 hl (by decide) rfl (fun ls hl => ?_)
      refine lv_iconst (v := 2) hx hb dL_resume_19 (by decide) ?_
      exact W.iret (v := 2) hx hb hr (fun t ht hW => ⟨⟨2, (τ, g), rfl, ⟨rfl, rfl, fun h => absurd h (by decide)⟩, by rw [ht]; exact hP, va_K.moved hW.alike hK, hD⟩, hS.F ht⟩) hS.2.2 dL_resume_20 hlocks
  · subst hres
    obtain ⟨hP, hD⟩ := gl_join hP hD hfr hF9 hP1 hD1
    have hP : va_P D vwCl (wH ad cA o cO τ g) H := hP
    have hD : va_D A (wH ad cA o cO τ g) := hD
    obtain rfl : kk = 0 := by revert hk; simp [kOf]; try omega
    refine lv_i2l (v := r.toInt64) hx hb dL_resume_8 rfl ?_
    refine va_last hx hb hK hP hD hS 32 26 (wH_32 ad cA o cO τ g) (tH_26 cA cO) vp_in_01 dL_resume_9 (fun H locs hP hD hS => ?_)
    rw [wHs_32, sb_cl0] at hP hD
    refine lv_goto (tgt := 21) hx hb dL_resume_10 (by decide) ?_
    refine lv_iconst (v := 0) hx hb dL_resume_21 (by decide) ?_
    refine W.widen (k := 1) (n := 6) (by omega) (by omega) ?_
    exact W.iret (v := 0) hx hb hr (fun t ht hW => ⟨⟨0, (τ, vp_updL g 0 r.toInt64), rfl, ⟨rfl, rfl, fun _ => rfl⟩, by rw [ht]; exact hP, va_K.moved hW.alike hK, hD⟩, hS.F ht⟩) hS.2.2 dL_resume_22 hlocks
