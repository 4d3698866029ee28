set_option maxHeartbeats 4000000 in
set_option maxRecDepth 100000 in
theorem tyc_M_mend (l : Launch) (D : va_G) (ad : Nat → Nat) (cA : Nat → ClassId) (sz : Nat) (σ : tyS) (p1 : Int32) (p2 : Int32) (p3 : Int32) (τ : tyS) (hF : tyf_M_mend σ p1 p2 p3 = some τ) : gMv l yX5_mend wsX5_mend ({ frames := 3, cells := 0, slots := 0, locals := 64 } : Room) D (wM ad cA) (tM cA) [.ref (ad 0), .int p1, .int p2, .int p3] sz σ τ := by
  refine Met.ofW (cc := cX5_mend) (maxL := 4) (ret := none) (by decide) rfl ?_
  intro p e s m args below meth c s₁ B hml hv
  obtain ⟨rfl, hsz, hP, hK, hD0, hNN⟩ := hv
  have hx := B.exec
  have hb := B.bytes
  have hr := B.returns
  have hts := atoms_spec (ws := wsX5_mend) B.pre
  have hown : s.vm.findClass RX5 = some m.cls := findClass_of_methodNamed B.named
  have hlocks := B.notSynchronized
  subst hsz
  have hD := hD0.self (sz := s.heap.size)
  generalize hAe : va_A (wM ad cA σ) s.heap.size = A at hD ⊢
  have hA : ∀ q : Nat, s.heap.size ≤ q → A q := fun q h => by rw [← hAe]; exact Or.inr h
  clear hAe hD0
  have hS : va_S A s.heap s.heap [] := va_S.rf
  have hl := lv_entry ([.ref (ad 0), .int p1, .int p2, .int p3]) (n := 4) (Nat.le_of_ble_eq_true rfl)
  rw [lg_entry_eq]
  generalize (lg_sl ([.ref (ad 0), .int p1, .int p2, .int p3]) ++ List.replicate (4 - (lg_sl ([.ref (ad 0), .int p1, .int p2, .int p3])).length) Slot.unset).toArray = ls at hl ⊢
  have hl : lv_has ls 4 [(0, .ref (ad 0)), (1, .int p1), (2, .int p2), (3, .int p3)] := hl
  have hS9 : CallFix p m c cX5_mend 4 s _ wsX5_mend RX5 := ⟨hx, hb, hml, hown, hts⟩
  have hw0 := hts (.fieldLink RX5 28 "TrunkYardsModel" "trunk" "[I") (List.mem_cons_of_mem _ (List.mem_of_getElem? (i := 0) rfl))
  have hiX5 : ∀ w ∈ wsX50, w ∈ wsX5_mend := fun w h => List.mem_cons_of_mem _ (List.mem_append_right _ h)
  have hw2 := hts (.fieldLink RX5 80 "TrunkYardsModel" "thrown" "I") (List.mem_cons_of_mem _ (List.mem_of_getElem? (i := 1) rfl))
  unfold tyf_M_mend at hF
  refine lv_aload_n hx hb dX5_mend_0 rfl (lv_at hl 0 rfl) ?_
  refine lv_iload_n hx hb dX5_mend_1 rfl (lv_at hl 1 rfl) ?_
  refine lv_iload_n hx hb dX5_mend_2 rfl (lv_at hl 2 rfl) ?_
  refine lv_iload_n hx hb dX5_mend_3 rfl (lv_at hl 3 rfl) ?_
  obtain ⟨r1, er1, hF⟩ := bR_some hF
  refine gc_Si (As := [.int p1, .int p2, .int p3]) hS9 (tyc_M_isTrunk l D ad cA _ σ p1 p2 p3 r1 er1) (va_cwS 3 hts gX5_mend_X5_isTrunk rfl rfl rfl hd_X5_isTrunk ⟨by decide, by decide⟩) hK hP hD hS hA hNN rfl hl.1 rfl (Nat.le_of_ble_eq_true rfl) dX5_mend_4 (fun H locs hP hD hS => ?_)
  refine lv_if_ne (tgt := 14) hx hb dX5_mend_7 (by decide) (fun c_2 => ?_) (fun c_2 => ?_)
  · have hF := iteF hF c_2
    refine lv_aload_n hx hb dX5_mend_14 rfl (lv_at hl 0 rfl) ?_
    refine va_get (D := D) (ci := 5) (v := .ref (ad 7)) (C := RX5) (T := TX5) (N := 30) hx hb hts hiX5 hown hK hP 0 (wM_0 ad cA σ) rfl 9 (by decide) hw0 (fun _ h9 => h9) rfl dX5_mend_15 ?_
    refine lv_iload_n hx hb dX5_mend_18 rfl (lv_at hl 1 rfl) ?_
    refine lv_iload_n hx hb dX5_mend_19 rfl (lv_at hl 2 rfl) ?_
    obtain ⟨r3, er3, hF⟩ := bR_some hF
    refine gc_Si (As := [.int p1, .int p2]) hS9 (tyc_M_between l D ad cA _ σ p1 p2 r3 er3) (va_cwS 2 hts gX5_mend_X5_between rfl rfl rfl hd_X5_between ⟨by decide, by decide⟩) hK hP hD hS hA hNN rfl hl.1 rfl (Nat.le_of_ble_eq_true rfl) dX5_mend_20 (fun H locs hP hD hS => ?_)
    refine lv_iload_n hx hb dX5_mend_23 rfl (lv_at hl 3 rfl) ?_
    refine lv_iadd hx hb dX5_mend_24 ?_
    obtain ⟨hb_4, hF⟩ := chk_some hF
    refine va_iald hx hb hK hP 7 6 (wM_7 ad cA σ) (tM_7 cA) hb_4 dX5_mend_25 ?_
    refine lv_bipush (v := (-2)) hx hb dX5_mend_26 (by decide) ?_
    refine lv_icmp_eq (tgt := 35) hx hb dX5_mend_28 (by decide) (fun c_5 => ?_) (fun c_5 => ?_)
    · have hF := iteT hF c_5
      refine lv_iconst (v := 0) hx hb dX5_mend_35 (by decide) ?_
      obtain ⟨σ6, e6, hF⟩ := stp_some hF
      refine gw_put hx hb hts hiX5 tyX5 tyX5_ok nmX5 hown hK hP hD hS 0 (wM_0 ad cA σ) rfl 0 (by decide) hw2 (fun _ h9 => h9) rfl (by decide +kernel) (show 0 < 30 from by decide) (wMv_0 ad cA σ _) dX5_mend_36 e6 (fun H locs hP hD hS => ?_)
      refine lv_aload_n hx hb dX5_mend_39 rfl (lv_at hl 0 rfl) ?_
      refine va_get (D := D) (ci := 5) (v := .int (σ6.2 0)) (C := RX5) (T := TX5) (N := 30) hx hb hts hiX5 hown hK hP 0 (wM_0 ad cA σ6) rfl 0 (by decide) hw2 (fun _ h9 => h9) rfl dX5_mend_40 ?_
      refine lv_as (y := 0) (by rw [e6]; rfl) ?_
      refine lv_if_ne (tgt := 59) hx hb dX5_mend_43 (by decide) (fun h9 => absurd h9 (by decide)) (fun _ => ?_)
      refine lv_aload_n hx hb dX5_mend_46 rfl (lv_at hl 0 rfl) ?_
      refine va_get (D := D) (ci := 5) (v := .ref (ad 7)) (C := RX5) (T := TX5) (N := 30) hx hb hts hiX5 hown hK hP 0 (wM_0 ad cA σ6) rfl 9 (by decide) hw0 (fun _ h9 => h9) rfl dX5_mend_47 ?_
      refine lv_iload_n hx hb dX5_mend_50 rfl (lv_at hl 1 rfl) ?_
      refine lv_iload_n hx hb dX5_mend_51 rfl (lv_at hl 2 rfl) ?_
      obtain ⟨r7, er7, hF⟩ := bR_some hF
      refine gc_Si (As := [.int p1, .int p2]) hS9 (tyc_M_between l D ad cA _ σ6 p1 p2 r7 er7) (va_cwS 2 hts gX5_mend_X5_between rfl rfl rfl hd_X5_between ⟨by decide, by decide⟩) hK hP hD hS hA hNN rfl hl.1 rfl (Nat.le_of_ble_eq_true rfl) dX5_mend_52 (fun H locs hP hD hS => ?_)
      refine lv_iload_n hx hb dX5_mend_55 rfl (lv_at hl 3 rfl) ?_
      refine lv_iadd hx hb dX5_mend_56 ?_
      refine lv_iconst (v := (-1)) hx hb dX5_mend_57 (by decide) ?_
      obtain ⟨hb_8, hF⟩ := chk_some hF
      obtain ⟨σ9, e9, hF⟩ := stp_some hF
      refine gw_iast hx hb hK hP hD hS (wM_7 ad cA σ6) (tM_7 cA) (wMs_7 ad cA σ6) hb_8 dX5_mend_58 e9 (fun H locs hP hD hS => ?_)
      exact g_vretN hx hb hr hlocks hP hK hD hS dX5_mend_59 hF
    · have hF := iteF hF c_5
      refine lv_iconst (v := 2) hx hb dX5_mend_31 (by decide) ?_
      refine lv_goto (tgt := 36) hx hb dX5_mend_32 (by decide) ?_
      obtain ⟨σ10, e10, hF⟩ := stp_some hF
      refine gw_put hx hb hts hiX5 tyX5 tyX5_ok nmX5 hown hK hP hD hS 0 (wM_0 ad cA σ) rfl 0 (by decide) hw2 (fun _ h9 => h9) rfl (by decide +kernel) (show 0 < 30 from by decide) (wMv_0 ad cA σ _) dX5_mend_36 e10 (fun H locs hP hD hS => ?_)
      refine lv_aload_n hx hb dX5_mend_39 rfl (lv_at hl 0 rfl) ?_
      refine va_get (D := D) (ci := 5) (v := .int (σ10.2 0)) (C := RX5) (T := TX5) (N := 30) hx hb hts hiX5 hown hK hP 0 (wM_0 ad cA σ10) rfl 0 (by decide) hw2 (fun _ h9 => h9) rfl dX5_mend_40 ?_
      refine lv_as (y := 2) (by rw [e10]; rfl) ?_
      refine lv_if_ne (tgt := 59) hx hb dX5_mend_43 (by decide) (fun _ => ?_) (fun h9 => absurd h9 (by decide))
      exact g_vretN hx hb hr hlocks hP hK hD hS dX5_mend_59 hF
  · have hF := iteT hF c_2
    refine lv_iconst (v := 1) hx hb dX5_mend_10 (by decide) ?_
    refine lv_goto (tgt := 36) hx hb dX5_mend_11 (by decide) ?_
    obtain ⟨σ11, e11, hF⟩ := stp_some hF
    refine gw_put hx hb hts hiX5 tyX5 tyX5_ok nmX5 hown hK hP hD hS 0 (wM_0 ad cA σ) rfl 0 (by decide) hw2 (fun _ h9 => h9) rfl (by decide +kernel) (show 0 < 30 from by decide) (wMv_0 ad cA σ _) dX5_mend_36 e11 (fun H locs hP hD hS => ?_)
    refine lv_aload_n hx hb dX5_mend_39 rfl (lv_at hl 0 rfl) ?_
    refine va_get (D := D) (ci := 5) (v := .int (σ11.2 0)) (C := RX5) (T := TX5) (N := 30) hx hb hts hiX5 hown hK hP 0 (wM_0 ad cA σ11) rfl 0 (by decide) hw2 (fun _ h9 => h9) rfl dX5_mend_40 ?_
    refine lv_as (y := 1) (by rw [e11]; rfl) ?_
    refine lv_if_ne (tgt := 59) hx hb dX5_mend_43 (by decide) (fun _ => ?_) (fun h9 => absurd h9 (by decide))
    exact g_vretN hx hb hr hlocks hP hK hD hS dX5_mend_59 hF
set_option maxHeartbeats 4000000 in
set_option maxRecDepth 100000 in
theorem tyc_M_trunk (l : Launch) (D : va_G) (ad : Nat → Nat) (cA : Nat → ClassId) (sz : Nat) (σ : tyS) (p1 : Int32) (p2 : Int32) (p3 : Int32) (r : Int32) (τ : tyS) (hF : tyf_M_trunk σ p1 p2 p3 = some (r, τ)) : gMi l yX5_trunk wsX5_trunk ({ frames := 3, cells := 0, slots := 0, locals := 64 } : Room) D (wM ad cA) (tM cA) [.ref (ad 0), .int p1, .int p2, .int p3] sz σ r τ := by
  refine Met.ofW (cc := cX5_trunk) (maxL := 4) (ret := (some .int)) (by decide) rfl ?_
  intro p e s m args below meth c s₁ B hml hv
  obtain ⟨rfl, hsz, hP, hK, hD0, hNN⟩ := hv
  have hx := B.exec
  have hb := B.bytes
  have hr := B.returns
  have hts := atoms_spec (ws := wsX5_trunk) B.pre
  have hown : s.vm.findClass RX5 = some m.cls := findClass_of_methodNamed B.named
  have hlocks := B.notSynchronized
  subst hsz
  have hD := hD0.self (sz := s.heap.size)
  generalize hAe : va_A (wM ad cA σ) s.heap.size = A at hD ⊢
  have hA : ∀ q : Nat, s.heap.size ≤ q → A q := fun q h => by rw [← hAe]; exact Or.inr h
  clear hAe hD0
  have hS : va_S A s.heap s.heap [] := va_S.rf
  have hl := lv_entry ([.ref (ad 0), .int p1, .int p2, .int p3]) (n := 4) (Nat.le_of_ble_eq_true rfl)
  rw [lg_entry_eq]
  generalize (lg_sl ([.ref (ad 0), .int p1, .int p2, .int p3]) ++ List.replicate (4 - (lg_sl ([.ref (ad 0), .int p1, .int p2, .int p3])).length) Slot.unset).toArray = ls at hl ⊢
  have hl : lv_has ls 4 [(0, .ref (ad 0)), (1, .int p1), (2, .int p2), (3, .int p3)] := hl
  have hS9 : CallFix p m c cX5_trunk 4 s _ wsX5_trunk RX5 := ⟨hx, hb, hml, hown, hts⟩
  have hw0 := hts (.fieldLink RX5 80 "TrunkYardsModel" "thrown" "I") (List.mem_cons_of_mem _ (List.mem_of_getElem? (i := 0) rfl))
  have hiX5 : ∀ w ∈ wsX50, w ∈ wsX5_trunk := fun w h => List.mem_cons_of_mem _ (List.mem_append_right _ h)
  have hw2 := hts (.fieldLink RX5 28 "TrunkYardsModel" "trunk" "[I") (List.mem_cons_of_mem _ (List.mem_of_getElem? (i := 1) rfl))
  unfold tyf_M_trunk at hF
  refine lv_aload_n hx hb dX5_trunk_0 rfl (lv_at hl 0 rfl) ?_
  refine lv_iload_n hx hb dX5_trunk_1 rfl (lv_at hl 1 rfl) ?_
  refine lv_iload_n hx hb dX5_trunk_2 rfl (lv_at hl 2 rfl) ?_
  refine lv_iload_n hx hb dX5_trunk_3 rfl (lv_at hl 3 rfl) ?_
  obtain ⟨r1, er1, hF⟩ := bR_some hF
  refine gc_Si (As := [.int p1, .int p2, .int p3]) hS9 (tyc_M_isTrunk l D ad cA _ σ p1 p2 p3 r1 er1) (va_cwS 3 hts gX5_trunk_X5_isTrunk rfl rfl rfl hd_X5_isTrunk ⟨by decide, by decide⟩) hK hP hD hS hA hNN rfl hl.1 rfl (Nat.le_of_ble_eq_true rfl) dX5_trunk_4 (fun H locs hP hD hS => ?_)
  refine lv_if_eq (tgt := 14) hx hb dX5_trunk_7 (by decide) (fun c_2 => ?_) (fun c_2 => ?_)
  · have hF := iteT hF c_2
    refine lv_iconst (v := 1) hx hb dX5_trunk_14 (by decide) ?_
    obtain ⟨σ3, e3, hF⟩ := stp_some hF
    refine gw_put hx hb hts hiX5 tyX5 tyX5_ok nmX5 hown hK hP hD hS 0 (wM_0 ad cA σ) rfl 0 (by decide) hw0 (fun _ h9 => h9) rfl (by decide +kernel) (show 0 < 30 from by decide) (wMv_0 ad cA σ _) dX5_trunk_15 e3 (fun H locs hP hD hS => ?_)
    refine lv_aload_n hx hb dX5_trunk_18 rfl (lv_at hl 0 rfl) ?_
    refine va_get (D := D) (ci := 5) (v := .int (σ3.2 0)) (C := RX5) (T := TX5) (N := 30) hx hb hts hiX5 hown hK hP 0 (wM_0 ad cA σ3) rfl 0 (by decide) hw0 (fun _ h9 => h9) rfl dX5_trunk_19 ?_
    refine lv_as (y := 1) (by rw [e3]; rfl) ?_
    refine lv_if_le (tgt := 29) hx hb dX5_trunk_22 (by decide) (fun h9 => absurd h9 (by decide)) (fun _ => ?_)
    refine lv_iconst (v := 0) hx hb dX5_trunk_25 (by decide) ?_
    refine lv_goto (tgt := 41) hx hb dX5_trunk_26 (by decide) ?_
    exact g_iretN hx hb hr rfl hlocks hP hK hD hS dX5_trunk_41 hF
  · have hF := iteF hF c_2
    refine lv_iconst (v := 0) hx hb dX5_trunk_10 (by decide) ?_
    refine lv_goto (tgt := 15) hx hb dX5_trunk_11 (by decide) ?_
    obtain ⟨σ4, e4, hF⟩ := stp_some hF
    refine gw_put hx hb hts hiX5 tyX5 tyX5_ok nmX5 hown hK hP hD hS 0 (wM_0 ad cA σ) rfl 0 (by decide) hw0 (fun _ h9 => h9) rfl (by decide +kernel) (show 0 < 30 from by decide) (wMv_0 ad cA σ _) dX5_trunk_15 e4 (fun H locs hP hD hS => ?_)
    refine lv_aload_n hx hb dX5_trunk_18 rfl (lv_at hl 0 rfl) ?_
    refine va_get (D := D) (ci := 5) (v := .int (σ4.2 0)) (C := RX5) (T := TX5) (N := 30) hx hb hts hiX5 hown hK hP 0 (wM_0 ad cA σ4) rfl 0 (by decide) hw0 (fun _ h9 => h9) rfl dX5_trunk_19 ?_
    refine lv_as (y := 0) (by rw [e4]; rfl) ?_
    refine lv_if_le (tgt := 29) hx hb dX5_trunk_22 (by decide) (fun _ => ?_) (fun h9 => absurd h9 (by decide))
    refine lv_aload_n hx hb dX5_trunk_29 rfl (lv_at hl 0 rfl) ?_
    refine va_get (D := D) (ci := 5) (v := .ref (ad 7)) (C := RX5) (T := TX5) (N := 30) hx hb hts hiX5 hown hK hP 0 (wM_0 ad cA σ4) rfl 9 (by decide) hw2 (fun _ h9 => h9) rfl dX5_trunk_30 ?_
    refine lv_iload_n hx hb dX5_trunk_33 rfl (lv_at hl 1 rfl) ?_
    refine lv_iload_n hx hb dX5_trunk_34 rfl (lv_at hl 2 rfl) ?_
    obtain ⟨r5, er5, hF⟩ := bR_some hF
    refine gc_Si (As := [.int p1, .int p2]) hS9 (tyc_M_between l D ad cA _ σ4 p1 p2 r5 er5) (va_cwS 2 hts gX5_trunk_X5_between rfl rfl rfl hd_X5_between ⟨by decide, by decide⟩) hK hP hD hS hA hNN rfl hl.1 rfl (Nat.le_of_ble_eq_true rfl) dX5_trunk_35 (fun H locs hP hD hS => ?_)
    refine lv_iload_n hx hb dX5_trunk_38 rfl (lv_at hl 3 rfl) ?_
    refine lv_iadd hx hb dX5_trunk_39 ?_
    obtain ⟨hb_6, hF⟩ := chk_some hF
    refine va_iald hx hb hK hP 7 6 (wM_7 ad cA σ4) (tM_7 cA) hb_6 dX5_trunk_40 ?_
    exact g_iretN hx hb hr rfl hlocks hP hK hD hS dX5_trunk_41 hF
set_option maxHeartbeats 4000000 in
set_option maxRecDepth 100000 in
theorem tyc_M_setLines (l : Launch) (D : va_G) (ad : Nat → Nat) (cA : Nat → ClassId) (sz : Nat) (σ : tyS) (p1 : Int32) (p2 : Int32) (r : Int32) (τ : tyS) (hF : tyf_M_setLines σ p1 p2 = some (r, τ)) : gMi l yX5_setLines wsX5_setLines ({ frames := 2, cells := 0, slots := 0, locals := 42 } : Room) D (wM ad cA) (tM cA) [.ref (ad 0), .int p1, .int p2] sz σ r τ := by
  refine Met.ofW (cc := cX5_setLines) (maxL := 4) (ret := (some .int)) (by decide) rfl ?_
  intro p e s m args below meth c s₁ B hml hv
  obtain ⟨rfl, hsz, hP, hK, hD0, hNN⟩ := hv
  have hx := B.exec
  have hb := B.bytes
  have hr := B.returns
  have hts := atoms_spec (ws := wsX5_setLines) B.pre
  have hown : s.vm.findClass RX5 = some m.cls := findClass_of_methodNamed B.named
  have hlocks := B.notSynchronized
  subst hsz
  have hD := hD0.self (sz := s.heap.size)
  generalize hAe : va_A (wM ad cA σ) s.heap.size = A at hD ⊢
  have hA : ∀ q : Nat, s.heap.size ≤ q → A q := fun q h => by rw [← hAe]; exact Or.inr h
  clear hAe hD0
  have hS : va_S A s.heap s.heap [] := va_S.rf
  have hl := lv_entry ([.ref (ad 0), .int p1, .int p2]) (n := 4) (Nat.le_of_ble_eq_true rfl)
  rw [lg_entry_eq]
  generalize (lg_sl ([.ref (ad 0), .int p1, .int p2]) ++ List.replicate (4 - (lg_sl ([.ref (ad 0), .int p1, .int p2])).length) Slot.unset).toArray = ls at hl ⊢
  have hl : lv_has ls 4 [(0, .ref (ad 0)), (1, .int p1), (2, .int p2)] := hl
  have hS9 : CallFix p m c cX5_setLines 4 s _ wsX5_setLines RX5 := ⟨hx, hb, hml, hown, hts⟩
  have hw0 := hts (.fieldLink RX5 80 "TrunkYardsModel" "thrown" "I") (List.mem_cons_of_mem _ (List.mem_of_getElem? (i := 0) rfl))
  have hiX5 : ∀ w ∈ wsX50, w ∈ wsX5_setLines := fun w h => List.mem_cons_of_mem _ (List.mem_append_right _ h)
  have hw2 := hts (.fieldLink RX5 31 "TrunkYardsModel" "lines" "[I") (List.mem_cons_of_mem _ (List.mem_of_getElem? (i := 1) rfl))
  unfold tyf_M_setLines at hF
  refine lv_aload_n hx hb dX5_setLines_0 rfl (lv_at hl 0 rfl) ?_
  refine lv_iload_n hx hb dX5_setLines_1 rfl (lv_at hl 1 rfl) ?_
  obtain ⟨r1, er1, hF⟩ := bR_some hF
  refine gc_Si (As := [.int p1]) hS9 (tyc_M_isYard l D ad cA _ σ p1 r1 er1) (va_cwS 1 hts gX5_setLines_X5_isYard rfl rfl rfl hd_X5_isYard ⟨by decide, by decide⟩) hK hP hD hS hA hNN rfl hl.1 rfl (Nat.le_of_ble_eq_true rfl) dX5_setLines_2 (fun H locs hP hD hS => ?_)
  refine lv_if_eq (tgt := 17) hx hb dX5_setLines_5 (by decide) (fun c_2 => ?_) (fun c_2 => ?_)
  · have hF := iteT hF c_2
    refine lv_iconst (v := 1) hx hb dX5_setLines_17 (by decide) ?_
    refine lv_goto (tgt := 35) hx hb dX5_setLines_18 (by decide) ?_
    obtain ⟨σ3, e3, hF⟩ := stp_some hF
    refine gw_put hx hb hts hiX5 tyX5 tyX5_ok nmX5 hown hK hP hD hS 0 (wM_0 ad cA σ) rfl 0 (by decide) hw0 (fun _ h9 => h9) rfl (by decide +kernel) (show 0 < 30 from by decide) (wMv_0 ad cA σ _) dX5_setLines_35 e3 (fun H locs hP hD hS => ?_)
    refine lv_aload_n hx hb dX5_setLines_38 rfl (lv_at hl 0 rfl) ?_
    refine va_get (D := D) (ci := 5) (v := .int (σ3.2 0)) (C := RX5) (T := TX5) (N := 30) hx hb hts hiX5 hown hK hP 0 (wM_0 ad cA σ3) rfl 0 (by decide) hw0 (fun _ h9 => h9) rfl dX5_setLines_39 ?_
    refine lv_as (y := 1) (by rw [e3]; rfl) ?_
    refine lv_if_le (tgt := 47) hx hb dX5_setLines_42 (by decide) (fun h9 => absurd h9 (by decide)) (fun _ => ?_)
    refine lv_iconst (v := 0) hx hb dX5_setLines_45 (by decide) ?_
    exact g_iretN hx hb hr rfl hlocks hP hK hD hS dX5_setLines_46 hF
  · have hF := iteF hF c_2
    refine lv_iload_n hx hb dX5_setLines_8 rfl (lv_at hl 2 rfl) ?_
    refine lv_iconst (v := 0) hx hb dX5_setLines_9 (by decide) ?_
    refine lv_iconst (v := 3) hx hb dX5_setLines_10 (by decide) ?_
    obtain ⟨r4, er4, hF⟩ := bR_some hF
    refine gc_Si (As := [.int p2, .int 0, .int 3]) hS9 (tyc_M_in l D ad cA _ σ p2 0 3 r4 er4) (va_cwS 3 hts gX5_setLines_X5_in rfl rfl rfl hd_X5_in ⟨by decide, by decide⟩) hK hP hD hS hA hNN rfl hl.1 rfl (Nat.le_of_ble_eq_true rfl) dX5_setLines_11 (fun H locs hP hD hS => ?_)
    refine lv_if_ne (tgt := 21) hx hb dX5_setLines_14 (by decide) (fun c_5 => ?_) (fun c_5 => ?_)
    · have hF := iteF hF c_5
      refine lv_aload_n hx hb dX5_setLines_21 rfl (lv_at hl 0 rfl) ?_
      refine lv_iload_n hx hb dX5_setLines_22 rfl (lv_at hl 1 rfl) ?_
      obtain ⟨r6, er6, hF⟩ := bR_some hF
      refine gc_Vi (As := [.int p1]) hS9 (tyc_M_callsTo l D ad cA _ σ p1 r6 er6) (cwV 1 hts gX5_setLines_X5_callsTo rfl rfl rfl hd_X5_callsTo ⟨by decide, by decide⟩) hK hP hD hS hA hNN (ci := 5) (q0 := 0) (N := 30) rfl (wM_0 ad cA σ) rfl hl.1 rfl (Nat.le_of_ble_eq_true rfl) dX5_setLines_23 (fun H locs hP hD hS => ?_)
      refine lv_iload_n hx hb dX5_setLines_26 rfl (lv_at hl 2 rfl) ?_
      refine lv_icmp_le (tgt := 34) hx hb dX5_setLines_27 (by decide) (fun c_7 => ?_) (fun c_7 => ?_)
      · have hF := iteT hF c_7
        refine lv_iconst (v := 0) hx hb dX5_setLines_34 (by decide) ?_
        obtain ⟨σ8, e8, hF⟩ := stp_some hF
        refine gw_put hx hb hts hiX5 tyX5 tyX5_ok nmX5 hown hK hP hD hS 0 (wM_0 ad cA σ) rfl 0 (by decide) hw0 (fun _ h9 => h9) rfl (by decide +kernel) (show 0 < 30 from by decide) (wMv_0 ad cA σ _) dX5_setLines_35 e8 (fun H locs hP hD hS => ?_)
        refine lv_aload_n hx hb dX5_setLines_38 rfl (lv_at hl 0 rfl) ?_
        refine va_get (D := D) (ci := 5) (v := .int (σ8.2 0)) (C := RX5) (T := TX5) (N := 30) hx hb hts hiX5 hown hK hP 0 (wM_0 ad cA σ8) rfl 0 (by decide) hw0 (fun _ h9 => h9) rfl dX5_setLines_39 ?_
        refine lv_as (y := 0) (by rw [e8]; rfl) ?_
        refine lv_if_le (tgt := 47) hx hb dX5_setLines_42 (by decide) (fun _ => ?_) (fun h9 => absurd h9 (by decide))
        refine lv_aload_n hx hb dX5_setLines_47 rfl (lv_at hl 0 rfl) ?_
        refine va_get (D := D) (ci := 5) (v := .ref (ad 8)) (C := RX5) (T := TX5) (N := 30) hx hb hts hiX5 hown hK hP 0 (wM_0 ad cA σ8) rfl 10 (by decide) hw2 (fun _ h9 => h9) rfl dX5_setLines_48 ?_
        refine lv_iload_n hx hb dX5_setLines_51 rfl (lv_at hl 1 rfl) ?_
        obtain ⟨hb_9, hF⟩ := chk_some hF
        refine va_iald hx hb hK hP 8 7 (wM_8 ad cA σ8) (tM_8 cA) hb_9 dX5_setLines_52 ?_
        refine lv_istore_n (lv' := [(3, .int (σ8.1 8 (p1).toNatClampNeg)), (0, .ref (ad 0)), (1, .int p1), (2, .int p2)]) hx hb dX5_setLines_53 rfl hl (by decide) rfl (fun ls hl => ?_)
        refine lv_aload_n hx hb dX5_setLines_54 rfl (lv_at hl 1 rfl) ?_
        refine va_get (D := D) (ci := 5) (v := .ref (ad 8)) (C := RX5) (T := TX5) (N := 30) hx hb hts hiX5 hown hK hP 0 (wM_0 ad cA σ8) rfl 10 (by decide) hw2 (fun _ h9 => h9) rfl dX5_setLines_55 ?_
        refine lv_iload_n hx hb dX5_setLines_58 rfl (lv_at hl 2 rfl) ?_
        refine lv_iload_n hx hb dX5_setLines_59 rfl (lv_at hl 3 rfl) ?_
        obtain ⟨hb_10, hF⟩ := chk_some hF
        obtain ⟨σ11, e11, hF⟩ := stp_some hF
        refine gw_iast hx hb hK hP hD hS (wM_8 ad cA σ8) (tM_8 cA) (wMs_8 ad cA σ8) hb_10 dX5_setLines_60 e11 (fun H locs hP hD hS => ?_)
        refine lv_iload_n hx hb dX5_setLines_61 rfl (lv_at hl 0 rfl) ?_
        exact g_iretN hx hb hr rfl hlocks hP hK hD hS dX5_setLines_62 hF
      · have hF := iteF hF c_7
        refine lv_iconst (v := 2) hx hb dX5_setLines_30 (by decide) ?_
        refine lv_goto (tgt := 35) hx hb dX5_setLines_31 (by decide) ?_
        obtain ⟨σ12, e12, hF⟩ := stp_some hF
        refine gw_put hx hb hts hiX5 tyX5 tyX5_ok nmX5 hown hK hP hD hS 0 (wM_0 ad cA σ) rfl 0 (by decide) hw0 (fun _ h9 => h9) rfl (by decide +kernel) (show 0 < 30 from by decide) (wMv_0 ad cA σ _) dX5_setLines_35 e12 (fun H locs hP hD hS => ?_)
        refine lv_aload_n hx hb dX5_setLines_38 rfl (lv_at hl 0 rfl) ?_
        refine va_get (D := D) (ci := 5) (v := .int (σ12.2 0)) (C := RX5) (T := TX5) (N := 30) hx hb hts hiX5 hown hK hP 0 (wM_0 ad cA σ12) rfl 0 (by decide) hw0 (fun _ h9 => h9) rfl dX5_setLines_39 ?_
        refine lv_as (y := 2) (by rw [e12]; rfl) ?_
        refine lv_if_le (tgt := 47) hx hb dX5_setLines_42 (by decide) (fun h9 => absurd h9 (by decide)) (fun _ => ?_)
        refine lv_iconst (v := 0) hx hb dX5_setLines_45 (by decide) ?_
        exact g_iretN hx hb hr rfl hlocks hP hK hD hS dX5_setLines_46 hF
    · have hF := iteT hF c_5
      refine lv_iconst (v := 1) hx hb dX5_setLines_17 (by decide) ?_
      refine lv_goto (tgt := 35) hx hb dX5_setLines_18 (by decide) ?_
      obtain ⟨σ13, e13, hF⟩ := stp_some hF
      refine gw_put hx hb hts hiX5 tyX5 tyX5_ok nmX5 hown hK hP hD hS 0 (wM_0 ad cA σ) rfl 0 (by decide) hw0 (fun _ h9 => h9) rfl (by decide +kernel) (show 0 < 30 from by decide) (wMv_0 ad cA σ _) dX5_setLines_35 e13 (fun H locs hP hD hS => ?_)
      refine lv_aload_n hx hb dX5_setLines_38 rfl (lv_at hl 0 rfl) ?_
      refine va_get (D := D) (ci := 5) (v := .int (σ13.2 0)) (C := RX5) (T := TX5) (N := 30) hx hb hts hiX5 hown hK hP 0 (wM_0 ad cA σ13) rfl 0 (by decide) hw0 (fun _ h9 => h9) rfl dX5_setLines_39 ?_
      refine lv_as (y := 1) (by rw [e13]; rfl) ?_
      refine lv_if_le (tgt := 47) hx hb dX5_setLines_42 (by decide) (fun h9 => absurd h9 (by decide)) (fun _ => ?_)
      refine lv_iconst (v := 0) hx hb dX5_setLines_45 (by decide) ?_
      exact g_iretN hx hb hr rfl hlocks hP hK hD hS dX5_setLines_46 hF
set_option maxHeartbeats 4000000 in
set_option maxRecDepth 100000 in
theorem tyc_M_pass (l : Launch) (D : va_G) (ad : Nat → Nat) (cA : Nat → ClassId) (sz : Nat) (σ : tyS) (p1 : Int32) (r : Int32) (τ : tyS) (hF : tyf_M_pass σ p1 = some (r, τ)) : gMi l yX5_pass wsX5_pass ({ frames := 1, cells := 0, slots := 0, locals := 22 } : Room) D (wM ad cA) (tM cA) [.ref (ad 0), .int p1] sz σ r τ := by
  refine Met.ofW (cc := cX5_pass) (maxL := 4) (ret := (some .int)) (by decide) rfl ?_
  intro p e s m args below meth c s₁ B hml hv
  obtain ⟨rfl, hsz, hP, hK, hD0, hNN⟩ := hv
  have hx := B.exec
  have hb := B.bytes
  have hr := B.returns
  have hts := atoms_spec (ws := wsX5_pass) B.pre
  have hown : s.vm.findClass RX5 = some m.cls := findClass_of_methodNamed B.named
  have hlocks := B.notSynchronized
  subst hsz
  have hD := hD0.self (sz := s.heap.size)
  generalize hAe : va_A (wM ad cA σ) s.heap.size = A at hD ⊢
  have hA : ∀ q : Nat, s.heap.size ≤ q → A q := fun q h => by rw [← hAe]; exact Or.inr h
  clear hAe hD0
  have hS : va_S A s.heap s.heap [] := va_S.rf
  have hl := lv_entry ([.ref (ad 0), .int p1]) (n := 4) (Nat.le_of_ble_eq_true rfl)
  rw [lg_entry_eq]
  generalize (lg_sl ([.ref (ad 0), .int p1]) ++ List.replicate (4 - (lg_sl ([.ref (ad 0), .int p1])).length) Slot.unset).toArray = ls at hl ⊢
  have hl : lv_has ls 4 [(0, .ref (ad 0)), (1, .int p1)] := hl
  have hS9 : CallFix p m c cX5_pass 4 s _ wsX5_pass RX5 := ⟨hx, hb, hml, hown, hts⟩
  have hw0 := hts (.fieldLink RX5 171 "TrunkYardsModel" "now" "I") (List.mem_cons_of_mem _ (List.mem_of_getElem? (i := 0) rfl))
  have hiX5 : ∀ w ∈ wsX50, w ∈ wsX5_pass := fun w h => List.mem_cons_of_mem _ (List.mem_append_right _ h)
  have hw2 := hts (.fieldLink RX5 80 "TrunkYardsModel" "thrown" "I") (List.mem_cons_of_mem _ (List.mem_of_getElem? (i := 1) rfl))
  have hw3 := hts (.fieldLink RX5 122 "TrunkYardsModel" "bookings" "I") (List.mem_cons_of_mem _ (List.mem_of_getElem? (i := 2) rfl))
  have hw4 := hts (.fieldLink RX5 47 "TrunkYardsModel" "state" "[I") (List.mem_cons_of_mem _ (List.mem_of_getElem? (i := 3) rfl))
  have hw5 := hts (.fieldLink RX5 59 "TrunkYardsModel" "lapse" "[I") (List.mem_cons_of_mem _ (List.mem_of_getElem? (i := 4) rfl))
  unfold tyf_M_pass at hF
  refine lv_aload_n hx hb dX5_pass_0 rfl (lv_at hl 0 rfl) ?_
  refine lv_iload_n hx hb dX5_pass_1 rfl (lv_at hl 1 rfl) ?_
  refine lv_iconst (v := 1) hx hb dX5_pass_2 (by decide) ?_
  refine lv_bipush (v := 100) hx hb dX5_pass_3 (by decide) ?_
  obtain ⟨r1, er1, hF⟩ := bR_some hF
  refine gc_Si (As := [.int p1, .int 1, .int 100]) hS9 (tyc_M_in l D ad cA _ σ p1 1 100 r1 er1) (va_cwS 3 hts gX5_pass_X5_in rfl rfl rfl hd_X5_in ⟨by decide, by decide⟩) hK hP hD hS hA hNN rfl hl.1 rfl (Nat.le_of_ble_eq_true rfl) dX5_pass_5 (fun H locs hP hD hS => ?_)
  refine lv_if_ne (tgt := 15) hx hb dX5_pass_8 (by decide) (fun c_2 => ?_) (fun c_2 => ?_)
  · have hF := iteF hF c_2
    refine lv_aload_n hx hb dX5_pass_15 rfl (lv_at hl 0 rfl) ?_
    refine va_get (D := D) (ci := 5) (v := .int (σ.2 1)) (C := RX5) (T := TX5) (N := 30) hx hb hts hiX5 hown hK hP 0 (wM_0 ad cA σ) rfl 1 (by decide) hw0 (fun _ h9 => h9) rfl dX5_pass_16 ?_
    refine lv_iload_n hx hb dX5_pass_19 rfl (lv_at hl 1 rfl) ?_
    refine lv_iadd hx hb dX5_pass_20 ?_
    refine lv_sipush (v := 10000) hx hb dX5_pass_21 (by decide) ?_
    refine lv_icmp_le (tgt := 31) hx hb dX5_pass_24 (by decide) (fun c_3 => ?_) (fun c_3 => ?_)
    · have hF := iteT hF c_3
      refine lv_iconst (v := 0) hx hb dX5_pass_31 (by decide) ?_
      obtain ⟨σ4, e4, hF⟩ := stp_some hF
      refine gw_put hx hb hts hiX5 tyX5 tyX5_ok nmX5 hown hK hP hD hS 0 (wM_0 ad cA σ) rfl 0 (by decide) hw2 (fun _ h9 => h9) rfl (by decide +kernel) (show 0 < 30 from by decide) (wMv_0 ad cA σ _) dX5_pass_32 e4 (fun H locs hP hD hS => ?_)
      refine lv_aload_n hx hb dX5_pass_35 rfl (lv_at hl 0 rfl) ?_
      refine va_get (D := D) (ci := 5) (v := .int (σ4.2 0)) (C := RX5) (T := TX5) (N := 30) hx hb hts hiX5 hown hK hP 0 (wM_0 ad cA σ4) rfl 0 (by decide) hw2 (fun _ h9 => h9) rfl dX5_pass_36 ?_
      refine lv_as (y := 0) (by rw [e4]; rfl) ?_
      refine lv_if_le (tgt := 44) hx hb dX5_pass_39 (by decide) (fun _ => ?_) (fun h9 => absurd h9 (by decide))
      refine lv_aload_n hx hb dX5_pass_44 rfl (lv_at hl 0 rfl) ?_
      refine lv_dup hx hb dX5_pass_45 rfl ?_
      refine va_get (D := D) (ci := 5) (v := .int (σ4.2 1)) (C := RX5) (T := TX5) (N := 30) hx hb hts hiX5 hown hK hP 0 (wM_0 ad cA σ4) rfl 1 (by decide) hw0 (fun _ h9 => h9) rfl dX5_pass_46 ?_
      refine lv_iload_n hx hb dX5_pass_49 rfl (lv_at hl 1 rfl) ?_
      refine lv_iadd hx hb dX5_pass_50 ?_
      obtain ⟨σ5, e5, hF⟩ := stp_some hF
      refine gw_put hx hb hts hiX5 tyX5 tyX5_ok nmX5 hown hK hP hD hS 0 (wM_0 ad cA σ4) rfl 1 (by decide) hw0 (fun _ h9 => h9) rfl (by decide +kernel) (show 1 < 30 from by decide) (wMv_1 ad cA σ4 _) dX5_pass_51 e5 (fun H locs hP hD hS => ?_)
      refine lv_iconst (v := 0) hx hb dX5_pass_54 (by decide) ?_
      refine lv_istore_n (lv' := [(2, .int 0), (0, .ref (ad 0)), (1, .int p1)]) hx hb dX5_pass_55 rfl hl (by decide) rfl (fun ls hl => ?_)
      refine lv_iconst (v := 0) hx hb dX5_pass_56 (by decide) ?_
      refine lv_istore_n (lv' := [(3, .int 0), (2, .int 0), (0, .ref (ad 0)), (1, .int p1)]) hx hb dX5_pass_57 rfl hl (by decide) rfl (fun ls hl => ?_)
      have lp58 : ∀ (k : tyS → Int32 → Int32 → Int32 → Option (Int32 × tyS)), (∀ (σ0 : tyS) (x1 : Int32) (x2 : Int32) (x3 : Int32) , k σ0 x1 x2 x3 = some (r, τ) → ∀ (H : Heap) (locs : List Loc) (ls : Array Slot), va_P D vwCl (wM ad cA σ0) H → va_D A (wM ad cA σ0) → va_S A s.heap H locs → lv_has ls 4 [(0, .ref (ad 0)), (1, .int x1), (2, .int x2), (3, .int x3)] → W p l e (headSpec wsX5_pass ({ frames := 1, cells := 0, slots := 0, locals := 22 } : Room)).room s m #[.ref (ad 0), .int p1] below meth c H locs 0 0 (MQ below (gQi D (wM ad cA) (tM cA) A r τ) #[.ref (ad 0), .int p1] s 0 0 A) (F0 m 105 ls [])) → ∀ (n : Nat), ∀ (σ0 : tyS) (x1 : Int32) (x2 : Int32) (x3 : Int32) , tyl_M_pass_58 k n σ0 x1 x2 x3 = some (r, τ) → ∀ (H : Heap) (locs : List Loc) (ls : Array Slot), va_P D vwCl (wM ad cA σ0) H → va_D A (wM ad cA σ0) → va_S A s.heap H locs → lv_has ls 4 [(0, .ref (ad 0)), (1, .int x1), (2, .int x2), (3, .int x3)] → W p l e (headSpec wsX5_pass ({ frames := 1, cells := 0, slots := 0, locals := 22 } : Room)).room s m #[.ref (ad 0), .int p1] below meth c H locs 0 0 (MQ below (gQi D (wM ad cA) (tM cA) A r τ) #[.ref (ad 0), .int p1] s 0 0 A) (F0 m 58 ls []) := by
        intro k hk n
        induction n with
        | zero =>
          intro σ0 x1 x2 x3 hF
          exact absurd hF (fun h => nomatch h)
        | succ n ih =>
          intro σ0 x1 x2 x3 hF H locs ls hP hD hS hl
          have hF : tyb_M_pass_58 k (tyl_M_pass_58 k n) σ0 x1 x2 x3 = some (r, τ) := hF
          unfold tyb_M_pass_58 at hF
          refine lv_iload_n hx hb dX5_pass_58 rfl (lv_at hl 3 rfl) ?_
          refine lv_aload_n hx hb dX5_pass_59 rfl (lv_at hl 0 rfl) ?_
          refine va_get (D := D) (ci := 5) (v := .int (σ0.2 5)) (C := RX5) (T := TX5) (N := 30) hx hb hts hiX5 hown hK hP 0 (wM_0 ad cA σ0) rfl 17 (by decide) hw3 (fun _ h9 => h9) rfl dX5_pass_60 ?_
          refine lv_icmp_ge (tgt := 105) hx hb dX5_pass_63 (by decide) (fun c_6 => ?_) (fun c_6 => ?_)
          · have hF := iteT hF c_6
            exact hk σ0 x1 x2 x3 hF _ _ _ hP hD hS (lv_sub hl [0, 1, 2, 3] rfl)
          · have hF := iteF hF c_6
            refine lv_aload_n hx hb dX5_pass_66 rfl (lv_at hl 0 rfl) ?_
            refine va_get (D := D) (ci := 5) (v := .ref (ad 13)) (C := RX5) (T := TX5) (N := 30) hx hb hts hiX5 hown hK hP 0 (wM_0 ad cA σ0) rfl 18 (by decide) hw4 (fun _ h9 => h9) rfl dX5_pass_67 ?_
            refine lv_iload_n hx hb dX5_pass_70 rfl (lv_at hl 3 rfl) ?_
            obtain ⟨hb_7, hF⟩ := chk_some hF
            refine va_iald hx hb hK hP 13 12 (wM_13 ad cA σ0) (tM_13 cA) hb_7 dX5_pass_71 ?_
            refine lv_iconst (v := 1) hx hb dX5_pass_72 (by decide) ?_
            refine lv_icmp_ne (tgt := 99) hx hb dX5_pass_73 (by decide) (fun c_8 => ?_) (fun c_8 => ?_)
            · have hF := iteF hF c_8
              refine lv_iinc (v := (x3 + 1)) (lv' := [(3, .int (x3 + 1)), (0, .ref (ad 0)), (1, .int x1), (2, .int x2)]) hx hb dX5_pass_99 hl (k := 3) rfl rfl (by decide) rfl (fun ls hl => ?_)
              refine lv_goto (tgt := 58) hx hb dX5_pass_102 (by decide) ?_
              exact ih σ0 x1 x2 (x3 + 1) hF _ _ _ hP hD hS (lv_sub hl [1, 2, 3, 0] rfl)
            · have hF := iteT hF c_8
              refine lv_aload_n hx hb dX5_pass_76 rfl (lv_at hl 0 rfl) ?_
              refine va_get (D := D) (ci := 5) (v := .ref (ad 17)) (C := RX5) (T := TX5) (N := 30) hx hb hts hiX5 hown hK hP 0 (wM_0 ad cA σ0) rfl 22 (by decide) hw5 (fun _ h9 => h9) rfl dX5_pass_77 ?_
              refine lv_iload_n hx hb dX5_pass_80 rfl (lv_at hl 3 rfl) ?_
              obtain ⟨hb_9, hF⟩ := chk_some hF
              refine va_iald hx hb hK hP 17 16 (wM_17 ad cA σ0) (tM_17 cA) hb_9 dX5_pass_81 ?_
              refine lv_aload_n hx hb dX5_pass_82 rfl (lv_at hl 0 rfl) ?_
              refine va_get (D := D) (ci := 5) (v := .int (σ0.2 1)) (C := RX5) (T := TX5) (N := 30) hx hb hts hiX5 hown hK hP 0 (wM_0 ad cA σ0) rfl 1 (by decide) hw0 (fun _ h9 => h9) rfl dX5_pass_83 ?_
              refine lv_icmp_gt (tgt := 99) hx hb dX5_pass_86 (by decide) (fun c_10 => ?_) (fun c_10 => ?_)
              · have hF := iteT hF c_10
                refine lv_iinc (v := (x3 + 1)) (lv' := [(3, .int (x3 + 1)), (0, .ref (ad 0)), (1, .int x1), (2, .int x2)]) hx hb dX5_pass_99 hl (k := 3) rfl rfl (by decide) rfl (fun ls hl => ?_)
                refine lv_goto (tgt := 58) hx hb dX5_pass_102 (by decide) ?_
                exact ih σ0 x1 x2 (x3 + 1) hF _ _ _ hP hD hS (lv_sub hl [1, 2, 3, 0] rfl)
              · have hF := iteF hF c_10
                refine lv_aload_n hx hb dX5_pass_89 rfl (lv_at hl 0 rfl) ?_
                refine va_get (D := D) (ci := 5) (v := .ref (ad 13)) (C := RX5) (T := TX5) (N := 30) hx hb hts hiX5 hown hK hP 0 (wM_0 ad cA σ0) rfl 18 (by decide) hw4 (fun _ h9 => h9) rfl dX5_pass_90 ?_
                refine lv_iload_n hx hb dX5_pass_93 rfl (lv_at hl 3 rfl) ?_
                refine lv_iconst (v := 5) hx hb dX5_pass_94 (by decide) ?_
                obtain ⟨hb_11, hF⟩ := chk_some hF
                obtain ⟨σ12, e12, hF⟩ := stp_some hF
                refine gw_iast hx hb hK hP hD hS (wM_13 ad cA σ0) (tM_13 cA) (wMs_13 ad cA σ0) hb_11 dX5_pass_95 e12 (fun H locs hP hD hS => ?_)
                refine lv_iinc (v := (x2 + 1)) (lv' := [(2, .int (x2 + 1)), (0, .ref (ad 0)), (1, .int x1), (3, .int x3)]) hx hb dX5_pass_96 hl (k := 2) rfl rfl (by decide) rfl (fun ls hl => ?_)
                refine lv_iinc (v := (x3 + 1)) (lv' := [(3, .int (x3 + 1)), (2, .int (x2 + 1)), (0, .ref (ad 0)), (1, .int x1)]) hx hb dX5_pass_99 hl (k := 3) rfl rfl (by decide) rfl (fun ls hl => ?_)
                refine lv_goto (tgt := 58) hx hb dX5_pass_102 (by decide) ?_
                exact ih σ12 x1 (x2 + 1) (x3 + 1) hF _ _ _ hP hD hS (lv_sub hl [2, 3, 1, 0] rfl)
      refine lp58 _ ?_ 64 σ5 p1 0 0 hF _ _ _ hP hD hS (lv_sub hl [2, 3, 1, 0] rfl)
      intro σ0 x1 x2 x3 hF H locs ls hP hD hS hl
      refine lv_iload_n hx hb dX5_pass_105 rfl (lv_at hl 2 rfl) ?_
      exact g_iretN hx hb hr rfl hlocks hP hK hD hS dX5_pass_106 hF
    · have hF := iteF hF c_3
      refine lv_iconst (v := 2) hx hb dX5_pass_27 (by decide) ?_
      refine lv_goto (tgt := 32) hx hb dX5_pass_28 (by decide) ?_
      obtain ⟨σ13, e13, hF⟩ := stp_some hF
      refine gw_put hx hb hts hiX5 tyX5 tyX5_ok nmX5 hown hK hP hD hS 0 (wM_0 ad cA σ) rfl 0 (by decide) hw2 (fun _ h9 => h9) rfl (by decide +kernel) (show 0 < 30 from by decide) (wMv_0 ad cA σ _) dX5_pass_32 e13 (fun H locs hP hD hS => ?_)
      refine lv_aload_n hx hb dX5_pass_35 rfl (lv_at hl 0 rfl) ?_
      refine va_get (D := D) (ci := 5) (v := .int (σ13.2 0)) (C := RX5) (T := TX5) (N := 30) hx hb hts hiX5 hown hK hP 0 (wM_0 ad cA σ13) rfl 0 (by decide) hw2 (fun _ h9 => h9) rfl dX5_pass_36 ?_
      refine lv_as (y := 2) (by rw [e13]; rfl) ?_
      refine lv_if_le (tgt := 44) hx hb dX5_pass_39 (by decide) (fun h9 => absurd h9 (by decide)) (fun _ => ?_)
      refine lv_iconst (v := 0) hx hb dX5_pass_42 (by decide) ?_
      exact g_iretN hx hb hr rfl hlocks hP hK hD hS dX5_pass_43 hF
  · have hF := iteT hF c_2
    refine lv_iconst (v := 1) hx hb dX5_pass_11 (by decide) ?_
    refine lv_goto (tgt := 32) hx hb dX5_pass_12 (by decide) ?_
    obtain ⟨σ14, e14, hF⟩ := stp_some hF
    refine gw_put hx hb hts hiX5 tyX5 tyX5_ok nmX5 hown hK hP hD hS 0 (wM_0 ad cA σ) rfl 0 (by decide) hw2 (fun _ h9 => h9) rfl (by decide +kernel) (show 0 < 30 from by decide) (wMv_0 ad cA σ _) dX5_pass_32 e14 (fun H locs hP hD hS => ?_)
    refine lv_aload_n hx hb dX5_pass_35 rfl (lv_at hl 0 rfl) ?_
    refine va_get (D := D) (ci := 5) (v := .int (σ14.2 0)) (C := RX5) (T := TX5) (N := 30) hx hb hts hiX5 hown hK hP 0 (wM_0 ad cA σ14) rfl 0 (by decide) hw2 (fun _ h9 => h9) rfl dX5_pass_36 ?_
    refine lv_as (y := 1) (by rw [e14]; rfl) ?_
    refine lv_if_le (tgt := 44) hx hb dX5_pass_39 (by decide) (fun h9 => absurd h9 (by decide)) (fun _ => ?_)
    refine lv_iconst (v := 0) hx hb dX5_pass_42 (by decide) ?_
    exact g_iretN hx hb hr rfl hlocks hP hK hD hS dX5_pass_43 hF
set_option maxHeartbeats 4000000 in
set_option maxRecDepth 100000 in
theorem tyc_M_bookings (l : Launch) (D : va_G) (ad : Nat → Nat) (cA : Nat → ClassId) (sz : Nat) (σ : tyS) (r : Int32) (τ : tyS) (hF : tyf_M_bookings σ  = some (r, τ)) : gMi l yX5_bookings wsX5_bookings ({ frames := 0, cells := 0, slots := 0, locals := 0 } : Room) D (wM ad cA) (tM cA) [.ref (ad 0)] sz σ r τ := by
  refine Met.ofW (cc := cX5_bookings) (maxL := 1) (ret := (some .int)) (by decide) rfl ?_
  intro p e s m args below meth c s₁ B hml hv
  obtain ⟨rfl, hsz, hP, hK, hD0, hNN⟩ := hv
  have hx := B.exec
  have hb := B.bytes
  have hr := B.returns
  have hts := atoms_spec (ws := wsX5_bookings) B.pre
  have hown : s.vm.findClass RX5 = some m.cls := findClass_of_methodNamed B.named
  have hlocks := B.notSynchronized
  subst hsz
  have hD := hD0.self (sz := s.heap.size)
  generalize hAe : va_A (wM ad cA σ) s.heap.size = A at hD ⊢
  have hA : ∀ q : Nat, s.heap.size ≤ q → A q := fun q h => by rw [← hAe]; exact Or.inr h
  clear hAe hD0
  have hS : va_S A s.heap s.heap [] := va_S.rf
  have hl := lv_entry ([.ref (ad 0)]) (n := 1) (Nat.le_of_ble_eq_true rfl)
  rw [lg_entry_eq]
  generalize (lg_sl ([.ref (ad 0)]) ++ List.replicate (1 - (lg_sl ([.ref (ad 0)])).length) Slot.unset).toArray = ls at hl ⊢
  have hl : lv_has ls 1 [(0, .ref (ad 0))] := hl
  have hw0 := hts (.fieldLink RX5 80 "TrunkYardsModel" "thrown" "I") (List.mem_cons_of_mem _ (List.mem_of_getElem? (i := 0) rfl))
  have hiX5 : ∀ w ∈ wsX50, w ∈ wsX5_bookings := fun w h => List.mem_cons_of_mem _ (List.mem_append_right _ h)
  have hw2 := hts (.fieldLink RX5 122 "TrunkYardsModel" "bookings" "I") (List.mem_cons_of_mem _ (List.mem_of_getElem? (i := 1) rfl))
  unfold tyf_M_bookings at hF
  refine lv_aload_n hx hb dX5_bookings_0 rfl (lv_at hl 0 rfl) ?_
  refine lv_iconst (v := 0) hx hb dX5_bookings_1 (by decide) ?_
  obtain ⟨σ1, e1, hF⟩ := stp_some hF
  refine gw_put hx hb hts hiX5 tyX5 tyX5_ok nmX5 hown hK hP hD hS 0 (wM_0 ad cA σ) rfl 0 (by decide) hw0 (fun _ h9 => h9) rfl (by decide +kernel) (show 0 < 30 from by decide) (wMv_0 ad cA σ _) dX5_bookings_2 e1 (fun H locs hP hD hS => ?_)
  refine lv_aload_n hx hb dX5_bookings_5 rfl (lv_at hl 0 rfl) ?_
  refine va_get (D := D) (ci := 5) (v := .int (σ1.2 5)) (C := RX5) (T := TX5) (N := 30) hx hb hts hiX5 hown hK hP 0 (wM_0 ad cA σ1) rfl 17 (by decide) hw2 (fun _ h9 => h9) rfl dX5_bookings_6 ?_
  exact g_iretN hx hb hr rfl hlocks hP hK hD hS dX5_bookings_9 hF
set_option maxHeartbeats 4000000 in
set_option maxRecDepth 100000 in
theorem tyc_M_asksBooking (l : Launch) (D : va_G) (ad : Nat → Nat) (cA : Nat → ClassId) (sz : Nat) (σ : tyS) (p1 : Int32) (r : Int32) (τ : tyS) (hF : tyf_M_asksBooking σ p1 = some (r, τ)) : gMi l yX5_asksBooking wsX5_asksBooking ({ frames := 2, cells := 0, slots := 0, locals := 43 } : Room) D (wM ad cA) (tM cA) [.ref (ad 0), .int p1] sz σ r τ := by
  refine Met.ofW (cc := cX5_asksBooking) (maxL := 2) (ret := (some .boolean)) (by decide) rfl ?_
  intro p e s m args below meth c s₁ B hml hv
  obtain ⟨rfl, hsz, hP, hK, hD0, hNN⟩ := hv
  have hx := B.exec
  have hb := B.bytes
  have hr := B.returns
  have hts := atoms_spec (ws := wsX5_asksBooking) B.pre
  have hown : s.vm.findClass RX5 = some m.cls := findClass_of_methodNamed B.named
  have hlocks := B.notSynchronized
  subst hsz
  have hD := hD0.self (sz := s.heap.size)
  generalize hAe : va_A (wM ad cA σ) s.heap.size = A at hD ⊢
  have hA : ∀ q : Nat, s.heap.size ≤ q → A q := fun q h => by rw [← hAe]; exact Or.inr h
  clear hAe hD0
  have hS : va_S A s.heap s.heap [] := va_S.rf
  have hl := lv_entry ([.ref (ad 0), .int p1]) (n := 2) (Nat.le_of_ble_eq_true rfl)
  rw [lg_entry_eq]
  generalize (lg_sl ([.ref (ad 0), .int p1]) ++ List.replicate (2 - (lg_sl ([.ref (ad 0), .int p1])).length) Slot.unset).toArray = ls at hl ⊢
  have hl : lv_has ls 2 [(0, .ref (ad 0)), (1, .int p1)] := hl
  have hS9 : CallFix p m c cX5_asksBooking 2 s _ wsX5_asksBooking RX5 := ⟨hx, hb, hml, hown, hts⟩
  have hw0 := hts (.fieldLink RX5 80 "TrunkYardsModel" "thrown" "I") (List.mem_cons_of_mem _ (List.mem_of_getElem? (i := 0) rfl))
  have hiX5 : ∀ w ∈ wsX50, w ∈ wsX5_asksBooking := fun w h => List.mem_cons_of_mem _ (List.mem_append_right _ h)
  unfold tyf_M_asksBooking at hF
  refine lv_aload_n hx hb dX5_asksBooking_0 rfl (lv_at hl 0 rfl) ?_
  refine lv_aload_n hx hb dX5_asksBooking_1 rfl (lv_at hl 0 rfl) ?_
  refine lv_iload_n hx hb dX5_asksBooking_2 rfl (lv_at hl 1 rfl) ?_
  obtain ⟨r1, er1, hF⟩ := bR_some hF
  refine gc_Vi (As := [.int p1]) hS9 (tyc_M_isBooking l D ad cA _ σ p1 r1 er1) (cwV 1 hts gX5_asksBooking_X5_isBooking rfl rfl rfl hd_X5_isBooking ⟨by decide, by decide⟩) hK hP hD hS hA hNN (ci := 5) (q0 := 0) (N := 30) rfl (wM_0 ad cA σ) rfl hl.1 rfl (Nat.le_of_ble_eq_true rfl) dX5_asksBooking_3 (fun H locs hP hD hS => ?_)
  refine lv_if_eq (tgt := 13) hx hb dX5_asksBooking_6 (by decide) (fun c_2 => ?_) (fun c_2 => ?_)
  · have hF := iteT hF c_2
    refine lv_iconst (v := 1) hx hb dX5_asksBooking_13 (by decide) ?_
    obtain ⟨σ3, e3, hF⟩ := stp_some hF
    refine gw_put hx hb hts hiX5 tyX5 tyX5_ok nmX5 hown hK hP hD hS 0 (wM_0 ad cA σ) rfl 0 (by decide) hw0 (fun _ h9 => h9) rfl (by decide +kernel) (show 0 < 30 from by decide) (wMv_0 ad cA σ _) dX5_asksBooking_14 e3 (fun H locs hP hD hS => ?_)
    refine lv_aload_n hx hb dX5_asksBooking_17 rfl (lv_at hl 0 rfl) ?_
    refine va_get (D := D) (ci := 5) (v := .int (σ3.2 0)) (C := RX5) (T := TX5) (N := 30) hx hb hts hiX5 hown hK hP 0 (wM_0 ad cA σ3) rfl 0 (by decide) hw0 (fun _ h9 => h9) rfl dX5_asksBooking_18 ?_
    refine lv_as (y := 1) (by rw [e3]; rfl) ?_
    refine lv_if_ne (tgt := 28) hx hb dX5_asksBooking_21 (by decide) (fun _ => ?_) (fun h9 => absurd h9 (by decide))
    refine lv_iconst (v := 0) hx hb dX5_asksBooking_28 (by decide) ?_
    exact g_iretN hx hb hr rfl hlocks hP hK hD hS dX5_asksBooking_29 hF
  · have hF := iteF hF c_2
    refine lv_iconst (v := 0) hx hb dX5_asksBooking_9 (by decide) ?_
    refine lv_goto (tgt := 14) hx hb dX5_asksBooking_10 (by decide) ?_
    obtain ⟨σ4, e4, hF⟩ := stp_some hF
    refine gw_put hx hb hts hiX5 tyX5 tyX5_ok nmX5 hown hK hP hD hS 0 (wM_0 ad cA σ) rfl 0 (by decide) hw0 (fun _ h9 => h9) rfl (by decide +kernel) (show 0 < 30 from by decide) (wMv_0 ad cA σ _) dX5_asksBooking_14 e4 (fun H locs hP hD hS => ?_)
    refine lv_aload_n hx hb dX5_asksBooking_17 rfl (lv_at hl 0 rfl) ?_
    refine va_get (D := D) (ci := 5) (v := .int (σ4.2 0)) (C := RX5) (T := TX5) (N := 30) hx hb hts hiX5 hown hK hP 0 (wM_0 ad cA σ4) rfl 0 (by decide) hw0 (fun _ h9 => h9) rfl dX5_asksBooking_18 ?_
    refine lv_as (y := 0) (by rw [e4]; rfl) ?_
    refine lv_if_ne (tgt := 28) hx hb dX5_asksBooking_21 (by decide) (fun h9 => absurd h9 (by decide)) (fun _ => ?_)
    refine lv_iconst (v := 1) hx hb dX5_asksBooking_24 (by decide) ?_
    refine lv_goto (tgt := 29) hx hb dX5_asksBooking_25 (by decide) ?_
    exact g_iretN hx hb hr rfl hlocks hP hK hD hS dX5_asksBooking_29 hF
set_option maxHeartbeats 4000000 in
set_option maxRecDepth 100000 in
theorem tyc_M_state (l : Launch) (D : va_G) (ad : Nat → Nat) (cA : Nat → ClassId) (sz : Nat) (σ : tyS) (p1 : Int32) (r : Int32) (τ : tyS) (hF : tyf_M_state σ p1 = some (r, τ)) : gMi l yX5_state wsX5_state ({ frames := 3, cells := 0, slots := 0, locals := 64 } : Room) D (wM ad cA) (tM cA) [.ref (ad 0), .int p1] sz σ r τ := by
  refine Met.ofW (cc := cX5_state) (maxL := 2) (ret := (some .int)) (by decide) rfl ?_
  intro p e s m args below meth c s₁ B hml hv
  obtain ⟨rfl, hsz, hP, hK, hD0, hNN⟩ := hv
  have hx := B.exec
  have hb := B.bytes
  have hr := B.returns
  have hts := atoms_spec (ws := wsX5_state) B.pre
  have hown : s.vm.findClass RX5 = some m.cls := findClass_of_methodNamed B.named
  have hlocks := B.notSynchronized
  subst hsz
  have hD := hD0.self (sz := s.heap.size)
  generalize hAe : va_A (wM ad cA σ) s.heap.size = A at hD ⊢
  have hA : ∀ q : Nat, s.heap.size ≤ q → A q := fun q h => by rw [← hAe]; exact Or.inr h
  clear hAe hD0
  have hS : va_S A s.heap s.heap [] := va_S.rf
  have hl := lv_entry ([.ref (ad 0), .int p1]) (n := 2) (Nat.le_of_ble_eq_true rfl)
  rw [lg_entry_eq]
  generalize (lg_sl ([.ref (ad 0), .int p1]) ++ List.replicate (2 - (lg_sl ([.ref (ad 0), .int p1])).length) Slot.unset).toArray = ls at hl ⊢
  have hl : lv_has ls 2 [(0, .ref (ad 0)), (1, .int p1)] := hl
  have hS9 : CallFix p m c cX5_state 2 s _ wsX5_state RX5 := ⟨hx, hb, hml, hown, hts⟩
  have hw0 := hts (.fieldLink RX5 47 "TrunkYardsModel" "state" "[I") (List.mem_cons_of_mem _ (List.mem_of_getElem? (i := 0) rfl))
  have hiX5 : ∀ w ∈ wsX50, w ∈ wsX5_state := fun w h => List.mem_cons_of_mem _ (List.mem_append_right _ h)
  unfold tyf_M_state at hF
  refine lv_aload_n hx hb dX5_state_0 rfl (lv_at hl 0 rfl) ?_
  refine lv_iload_n hx hb dX5_state_1 rfl (lv_at hl 1 rfl) ?_
  obtain ⟨r2, σ1, er2, hF⟩ := bN_some hF
  refine gc_Vi (As := [.int p1]) hS9 (tyc_M_asksBooking l D ad cA _ σ p1 r2 σ1 er2) (cwV 1 hts gX5_state_X5_asksBooking rfl rfl rfl hd_X5_asksBooking ⟨by decide, by decide⟩) hK hP hD hS hA hNN (ci := 5) (q0 := 0) (N := 30) rfl (wM_0 ad cA σ) rfl hl.1 rfl (Nat.le_of_ble_eq_true rfl) dX5_state_2 (fun H locs hP hD hS => ?_)
  refine lv_if_eq (tgt := 17) hx hb dX5_state_5 (by decide) (fun c_3 => ?_) (fun c_3 => ?_)
  · have hF := iteT hF c_3
    refine lv_iconst (v := 0) hx hb dX5_state_17 (by decide) ?_
    exact g_iretN hx hb hr rfl hlocks hP hK hD hS dX5_state_18 hF
  · have hF := iteF hF c_3
    refine lv_aload_n hx hb dX5_state_8 rfl (lv_at hl 0 rfl) ?_
    refine va_get (D := D) (ci := 5) (v := .ref (ad 13)) (C := RX5) (T := TX5) (N := 30) hx hb hts hiX5 hown hK hP 0 (wM_0 ad cA σ1) rfl 18 (by decide) hw0 (fun _ h9 => h9) rfl dX5_state_9 ?_
    refine lv_iload_n hx hb dX5_state_12 rfl (lv_at hl 1 rfl) ?_
    obtain ⟨hb_4, hF⟩ := chk_some hF
    refine va_iald hx hb hK hP 13 12 (wM_13 ad cA σ1) (tM_13 cA) hb_4 dX5_state_13 ?_
    refine lv_goto (tgt := 18) hx hb dX5_state_14 (by decide) ?_
    exact g_iretN hx hb hr rfl hlocks hP hK hD hS dX5_state_18 hF
set_option maxHeartbeats 4000000 in
set_option maxRecDepth 100000 in
theorem tyc_M_wagons (l : Launch) (D : va_G) (ad : Nat → Nat) (cA : Nat → ClassId) (sz : Nat) (σ : tyS) (p1 : Int32) (r : Int32) (τ : tyS) (hF : tyf_M_wagons σ p1 = some (r, τ)) : gMi l yX5_wagons wsX5_wagons ({ frames := 3, cells := 0, slots := 0, locals := 64 } : Room) D (wM ad cA) (tM cA) [.ref (ad 0), .int p1] sz σ r τ := by
  refine Met.ofW (cc := cX5_wagons) (maxL := 2) (ret := (some .int)) (by decide) rfl ?_
  intro p e s m args below meth c s₁ B hml hv
  obtain ⟨rfl, hsz, hP, hK, hD0, hNN⟩ := hv
  have hx := B.exec
  have hb := B.bytes
  have hr := B.returns
  have hts := atoms_spec (ws := wsX5_wagons) B.pre
  have hown : s.vm.findClass RX5 = some m.cls := findClass_of_methodNamed B.named
  have hlocks := B.notSynchronized
  subst hsz
  have hD := hD0.self (sz := s.heap.size)
  generalize hAe : va_A (wM ad cA σ) s.heap.size = A at hD ⊢
  have hA : ∀ q : Nat, s.heap.size ≤ q → A q := fun q h => by rw [← hAe]; exact Or.inr h
  clear hAe hD0
  have hS : va_S A s.heap s.heap [] := va_S.rf
  have hl := lv_entry ([.ref (ad 0), .int p1]) (n := 2) (Nat.le_of_ble_eq_true rfl)
  rw [lg_entry_eq]
  generalize (lg_sl ([.ref (ad 0), .int p1]) ++ List.replicate (2 - (lg_sl ([.ref (ad 0), .int p1])).length) Slot.unset).toArray = ls at hl ⊢
  have hl : lv_has ls 2 [(0, .ref (ad 0)), (1, .int p1)] := hl
  have hS9 : CallFix p m c cX5_wagons 2 s _ wsX5_wagons RX5 := ⟨hx, hb, hml, hown, hts⟩
  have hw0 := hts (.fieldLink RX5 62 "TrunkYardsModel" "many" "[I") (List.mem_cons_of_mem _ (List.mem_of_getElem? (i := 0) rfl))
  have hiX5 : ∀ w ∈ wsX50, w ∈ wsX5_wagons := fun w h => List.mem_cons_of_mem _ (List.mem_append_right _ h)
  unfold tyf_M_wagons at hF
  refine lv_aload_n hx hb dX5_wagons_0 rfl (lv_at hl 0 rfl) ?_
  refine lv_iload_n hx hb dX5_wagons_1 rfl (lv_at hl 1 rfl) ?_
  obtain ⟨r2, σ1, er2, hF⟩ := bN_some hF
  refine gc_Vi (As := [.int p1]) hS9 (tyc_M_asksBooking l D ad cA _ σ p1 r2 σ1 er2) (cwV 1 hts gX5_wagons_X5_asksBooking rfl rfl rfl hd_X5_asksBooking ⟨by decide, by decide⟩) hK hP hD hS hA hNN (ci := 5) (q0 := 0) (N := 30) rfl (wM_0 ad cA σ) rfl hl.1 rfl (Nat.le_of_ble_eq_true rfl) dX5_wagons_2 (fun H locs hP hD hS => ?_)
  refine lv_if_eq (tgt := 17) hx hb dX5_wagons_5 (by decide) (fun c_3 => ?_) (fun c_3 => ?_)
  · have hF := iteT hF c_3
    refine lv_iconst (v := 0) hx hb dX5_wagons_17 (by decide) ?_
    exact g_iretN hx hb hr rfl hlocks hP hK hD hS dX5_wagons_18 hF
  · have hF := iteF hF c_3
    refine lv_aload_n hx hb dX5_wagons_8 rfl (lv_at hl 0 rfl) ?_
    refine va_get (D := D) (ci := 5) (v := .ref (ad 18)) (C := RX5) (T := TX5) (N := 30) hx hb hts hiX5 hown hK hP 0 (wM_0 ad cA σ1) rfl 23 (by decide) hw0 (fun _ h9 => h9) rfl dX5_wagons_9 ?_
    refine lv_iload_n hx hb dX5_wagons_12 rfl (lv_at hl 1 rfl) ?_
    obtain ⟨hb_4, hF⟩ := chk_some hF
    refine va_iald hx hb hK hP 18 17 (wM_18 ad cA σ1) (tM_18 cA) hb_4 dX5_wagons_13 ?_
    refine lv_goto (tgt := 18) hx hb dX5_wagons_14 (by decide) ?_
    exact g_iretN hx hb hr rfl hlocks hP hK hD hS dX5_wagons_18 hF
set_option maxHeartbeats 4000000 in
set_option maxRecDepth 100000 in
theorem tyc_M_wagonOf (l : Launch) (D : va_G) (ad : Nat → Nat) (cA : Nat → ClassId) (sz : Nat) (σ : tyS) (p1 : Int32) (p2 : Int32) (r : Int32) (τ : tyS) (hF : tyf_M_wagonOf σ p1 p2 = some (r, τ)) : gMi l yX5_wagonOf wsX5_wagonOf ({ frames := 2, cells := 0, slots := 0, locals := 43 } : Room) D (wM ad cA) (tM cA) [.ref (ad 0), .int p1, .int p2] sz σ r τ := by
  refine Met.ofW (cc := cX5_wagonOf) (maxL := 3) (ret := (some .int)) (by decide) rfl ?_
  intro p e s m args below meth c s₁ B hml hv
  obtain ⟨rfl, hsz, hP, hK, hD0, hNN⟩ := hv
  have hx := B.exec
  have hb := B.bytes
  have hr := B.returns
  have hts := atoms_spec (ws := wsX5_wagonOf) B.pre
  have hown : s.vm.findClass RX5 = some m.cls := findClass_of_methodNamed B.named
  have hlocks := B.notSynchronized
  subst hsz
  have hD := hD0.self (sz := s.heap.size)
  generalize hAe : va_A (wM ad cA σ) s.heap.size = A at hD ⊢
  have hA : ∀ q : Nat, s.heap.size ≤ q → A q := fun q h => by rw [← hAe]; exact Or.inr h
  clear hAe hD0
  have hS : va_S A s.heap s.heap [] := va_S.rf
  have hl := lv_entry ([.ref (ad 0), .int p1, .int p2]) (n := 3) (Nat.le_of_ble_eq_true rfl)
  rw [lg_entry_eq]
  generalize (lg_sl ([.ref (ad 0), .int p1, .int p2]) ++ List.replicate (3 - (lg_sl ([.ref (ad 0), .int p1, .int p2])).length) Slot.unset).toArray = ls at hl ⊢
  have hl : lv_has ls 3 [(0, .ref (ad 0)), (1, .int p1), (2, .int p2)] := hl
  have hS9 : CallFix p m c cX5_wagonOf 3 s _ wsX5_wagonOf RX5 := ⟨hx, hb, hml, hown, hts⟩
  have hw0 := hts (.fieldLink RX5 80 "TrunkYardsModel" "thrown" "I") (List.mem_cons_of_mem _ (List.mem_of_getElem? (i := 1) rfl))
  have hiX5 : ∀ w ∈ wsX50, w ∈ wsX5_wagonOf := fun w h => List.mem_cons_of_mem _ (List.mem_append_right _ h)
  have hw2 := hts (.fieldLink RX5 62 "TrunkYardsModel" "many" "[I") (List.mem_cons_of_mem _ (List.mem_of_getElem? (i := 0) rfl))
  have hw3 := hts (.fieldLink RX5 65 "TrunkYardsModel" "wagonOf" "[I") (List.mem_cons_of_mem _ (List.mem_of_getElem? (i := 2) rfl))
  unfold tyf_M_wagonOf at hF
  refine lv_aload_n hx hb dX5_wagonOf_0 rfl (lv_at hl 0 rfl) ?_
  refine lv_aload_n hx hb dX5_wagonOf_1 rfl (lv_at hl 0 rfl) ?_
  refine lv_iload_n hx hb dX5_wagonOf_2 rfl (lv_at hl 1 rfl) ?_
  obtain ⟨r1, er1, hF⟩ := bR_some hF
  refine gc_Vi (As := [.int p1]) hS9 (tyc_M_isBooking l D ad cA _ σ p1 r1 er1) (cwV 1 hts gX5_wagonOf_X5_isBooking rfl rfl rfl hd_X5_isBooking ⟨by decide, by decide⟩) hK hP hD hS hA hNN (ci := 5) (q0 := 0) (N := 30) rfl (wM_0 ad cA σ) rfl hl.1 rfl (Nat.le_of_ble_eq_true rfl) dX5_wagonOf_3 (fun H locs hP hD hS => ?_)
  refine lv_if_eq (tgt := 29) hx hb dX5_wagonOf_6 (by decide) (fun c_2 => ?_) (fun c_2 => ?_)
  · have hF := iteT hF c_2
    refine lv_iconst (v := 1) hx hb dX5_wagonOf_29 (by decide) ?_
    obtain ⟨σ3, e3, hF⟩ := stp_some hF
    refine gw_put hx hb hts hiX5 tyX5 tyX5_ok nmX5 hown hK hP hD hS 0 (wM_0 ad cA σ) rfl 0 (by decide) hw0 (fun _ h9 => h9) rfl (by decide +kernel) (show 0 < 30 from by decide) (wMv_0 ad cA σ _) dX5_wagonOf_30 e3 (fun H locs hP hD hS => ?_)
    refine lv_aload_n hx hb dX5_wagonOf_33 rfl (lv_at hl 0 rfl) ?_
    refine va_get (D := D) (ci := 5) (v := .int (σ3.2 0)) (C := RX5) (T := TX5) (N := 30) hx hb hts hiX5 hown hK hP 0 (wM_0 ad cA σ3) rfl 0 (by decide) hw0 (fun _ h9 => h9) rfl dX5_wagonOf_34 ?_
    refine lv_as (y := 1) (by rw [e3]; rfl) ?_
    refine lv_if_le (tgt := 44) hx hb dX5_wagonOf_37 (by decide) (fun h9 => absurd h9 (by decide)) (fun _ => ?_)
    refine lv_iconst (v := 0) hx hb dX5_wagonOf_40 (by decide) ?_
    refine lv_goto (tgt := 55) hx hb dX5_wagonOf_41 (by decide) ?_
    exact g_iretN hx hb hr rfl hlocks hP hK hD hS dX5_wagonOf_55 hF
  · have hF := iteF hF c_2
    refine lv_iload_n hx hb dX5_wagonOf_9 rfl (lv_at hl 2 rfl) ?_
    refine lv_iconst (v := 0) hx hb dX5_wagonOf_10 (by decide) ?_
    refine lv_aload_n hx hb dX5_wagonOf_11 rfl (lv_at hl 0 rfl) ?_
    refine va_get (D := D) (ci := 5) (v := .ref (ad 18)) (C := RX5) (T := TX5) (N := 30) hx hb hts hiX5 hown hK hP 0 (wM_0 ad cA σ) rfl 23 (by decide) hw2 (fun _ h9 => h9) rfl dX5_wagonOf_12 ?_
    refine lv_iload_n hx hb dX5_wagonOf_15 rfl (lv_at hl 1 rfl) ?_
    obtain ⟨hb_4, hF⟩ := chk_some hF
    refine va_iald hx hb hK hP 18 17 (wM_18 ad cA σ) (tM_18 cA) hb_4 dX5_wagonOf_16 ?_
    refine lv_iconst (v := 1) hx hb dX5_wagonOf_17 (by decide) ?_
    refine lv_isub hx hb dX5_wagonOf_18 ?_
    obtain ⟨r5, er5, hF⟩ := bR_some hF
    refine gc_Si (As := [.int p2, .int 0, .int ((σ.1 18 (p1).toNatClampNeg) - 1)]) hS9 (tyc_M_in l D ad cA _ σ p2 0 ((σ.1 18 (p1).toNatClampNeg) - 1) r5 er5) (va_cwS 3 hts gX5_wagonOf_X5_in rfl rfl rfl hd_X5_in ⟨by decide, by decide⟩) hK hP hD hS hA hNN rfl hl.1 rfl (Nat.le_of_ble_eq_true rfl) dX5_wagonOf_19 (fun H locs hP hD hS => ?_)
    refine lv_if_eq (tgt := 29) hx hb dX5_wagonOf_22 (by decide) (fun c_6 => ?_) (fun c_6 => ?_)
    · have hF := iteT hF c_6
      refine lv_iconst (v := 1) hx hb dX5_wagonOf_29 (by decide) ?_
      obtain ⟨σ7, e7, hF⟩ := stp_some hF
      refine gw_put hx hb hts hiX5 tyX5 tyX5_ok nmX5 hown hK hP hD hS 0 (wM_0 ad cA σ) rfl 0 (by decide) hw0 (fun _ h9 => h9) rfl (by decide +kernel) (show 0 < 30 from by decide) (wMv_0 ad cA σ _) dX5_wagonOf_30 e7 (fun H locs hP hD hS => ?_)
      refine lv_aload_n hx hb dX5_wagonOf_33 rfl (lv_at hl 0 rfl) ?_
      refine va_get (D := D) (ci := 5) (v := .int (σ7.2 0)) (C := RX5) (T := TX5) (N := 30) hx hb hts hiX5 hown hK hP 0 (wM_0 ad cA σ7) rfl 0 (by decide) hw0 (fun _ h9 => h9) rfl dX5_wagonOf_34 ?_
      refine lv_as (y := 1) (by rw [e7]; rfl) ?_
      refine lv_if_le (tgt := 44) hx hb dX5_wagonOf_37 (by decide) (fun h9 => absurd h9 (by decide)) (fun _ => ?_)
      refine lv_iconst (v := 0) hx hb dX5_wagonOf_40 (by decide) ?_
      refine lv_goto (tgt := 55) hx hb dX5_wagonOf_41 (by decide) ?_
      exact g_iretN hx hb hr rfl hlocks hP hK hD hS dX5_wagonOf_55 hF
    · have hF := iteF hF c_6
      refine lv_iconst (v := 0) hx hb dX5_wagonOf_25 (by decide) ?_
      refine lv_goto (tgt := 30) hx hb dX5_wagonOf_26 (by decide) ?_
      obtain ⟨σ8, e8, hF⟩ := stp_some hF
      refine gw_put hx hb hts hiX5 tyX5 tyX5_ok nmX5 hown hK hP hD hS 0 (wM_0 ad cA σ) rfl 0 (by decide) hw0 (fun _ h9 => h9) rfl (by decide +kernel) (show 0 < 30 from by decide) (wMv_0 ad cA σ _) dX5_wagonOf_30 e8 (fun H locs hP hD hS => ?_)
      refine lv_aload_n hx hb dX5_wagonOf_33 rfl (lv_at hl 0 rfl) ?_
      refine va_get (D := D) (ci := 5) (v := .int (σ8.2 0)) (C := RX5) (T := TX5) (N := 30) hx hb hts hiX5 hown hK hP 0 (wM_0 ad cA σ8) rfl 0 (by decide) hw0 (fun _ h9 => h9) rfl dX5_wagonOf_34 ?_
      refine lv_as (y := 0) (by rw [e8]; rfl) ?_
      refine lv_if_le (tgt := 44) hx hb dX5_wagonOf_37 (by decide) (fun _ => ?_) (fun h9 => absurd h9 (by decide))
      refine lv_aload_n hx hb dX5_wagonOf_44 rfl (lv_at hl 0 rfl) ?_
      refine va_get (D := D) (ci := 5) (v := .ref (ad 19)) (C := RX5) (T := TX5) (N := 30) hx hb hts hiX5 hown hK hP 0 (wM_0 ad cA σ8) rfl 24 (by decide) hw3 (fun _ h9 => h9) rfl dX5_wagonOf_45 ?_
      refine lv_bipush (v := 30) hx hb dX5_wagonOf_48 (by decide) ?_
      refine lv_iload_n hx hb dX5_wagonOf_50 rfl (lv_at hl 1 rfl) ?_
      refine lv_imul hx hb dX5_wagonOf_51 ?_
      refine lv_iload_n hx hb dX5_wagonOf_52 rfl (lv_at hl 2 rfl) ?_
      refine lv_iadd hx hb dX5_wagonOf_53 ?_
      obtain ⟨hb_9, hF⟩ := chk_some hF
      refine va_iald hx hb hK hP 19 18 (wM_19 ad cA σ8) (tM_19 cA) hb_9 dX5_wagonOf_54 ?_
      exact g_iretN hx hb hr rfl hlocks hP hK hD hS dX5_wagonOf_55 hF
set_option maxHeartbeats 4000000 in
set_option maxRecDepth 100000 in
theorem tyc_M_lapses (l : Launch) (D : va_G) (ad : Nat → Nat) (cA : Nat → ClassId) (sz : Nat) (σ : tyS) (p1 : Int32) (r : Int32) (τ : tyS) (hF : tyf_M_lapses σ p1 = some (r, τ)) : gMi l yX5_lapses wsX5_lapses ({ frames := 2, cells := 0, slots := 0, locals := 43 } : Room) D (wM ad cA) (tM cA) [.ref (ad 0), .int p1] sz σ r τ := by
  refine Met.ofW (cc := cX5_lapses) (maxL := 2) (ret := (some .int)) (by decide) rfl ?_
  intro p e s m args below meth c s₁ B hml hv
  obtain ⟨rfl, hsz, hP, hK, hD0, hNN⟩ := hv
  have hx := B.exec
  have hb := B.bytes
  have hr := B.returns
  have hts := atoms_spec (ws := wsX5_lapses) B.pre
  have hown : s.vm.findClass RX5 = some m.cls := findClass_of_methodNamed B.named
  have hlocks := B.notSynchronized
  subst hsz
  have hD := hD0.self (sz := s.heap.size)
  generalize hAe : va_A (wM ad cA σ) s.heap.size = A at hD ⊢
  have hA : ∀ q : Nat, s.heap.size ≤ q → A q := fun q h => by rw [← hAe]; exact Or.inr h
  clear hAe hD0
  have hS : va_S A s.heap s.heap [] := va_S.rf
  have hl := lv_entry ([.ref (ad 0), .int p1]) (n := 2) (Nat.le_of_ble_eq_true rfl)
  rw [lg_entry_eq]
  generalize (lg_sl ([.ref (ad 0), .int p1]) ++ List.replicate (2 - (lg_sl ([.ref (ad 0), .int p1])).length) Slot.unset).toArray = ls at hl ⊢
  have hl : lv_has ls 2 [(0, .ref (ad 0)), (1, .int p1)] := hl
  have hS9 : CallFix p m c cX5_lapses 2 s _ wsX5_lapses RX5 := ⟨hx, hb, hml, hown, hts⟩
  have hw0 := hts (.fieldLink RX5 47 "TrunkYardsModel" "state" "[I") (List.mem_cons_of_mem _ (List.mem_of_getElem? (i := 0) rfl))
  have hiX5 : ∀ w ∈ wsX50, w ∈ wsX5_lapses := fun w h => List.mem_cons_of_mem _ (List.mem_append_right _ h)
  have hw2 := hts (.fieldLink RX5 80 "TrunkYardsModel" "thrown" "I") (List.mem_cons_of_mem _ (List.mem_of_getElem? (i := 1) rfl))
  have hw3 := hts (.fieldLink RX5 59 "TrunkYardsModel" "lapse" "[I") (List.mem_cons_of_mem _ (List.mem_of_getElem? (i := 2) rfl))
  have hw4 := hts (.fieldLink RX5 171 "TrunkYardsModel" "now" "I") (List.mem_cons_of_mem _ (List.mem_of_getElem? (i := 3) rfl))
  unfold tyf_M_lapses at hF
  refine lv_aload_n hx hb dX5_lapses_0 rfl (lv_at hl 0 rfl) ?_
  refine lv_aload_n hx hb dX5_lapses_1 rfl (lv_at hl 0 rfl) ?_
  refine lv_iload_n hx hb dX5_lapses_2 rfl (lv_at hl 1 rfl) ?_
  obtain ⟨r1, er1, hF⟩ := bR_some hF
  refine gc_Vi (As := [.int p1]) hS9 (tyc_M_isBooking l D ad cA _ σ p1 r1 er1) (cwV 1 hts gX5_lapses_X5_isBooking rfl rfl rfl hd_X5_isBooking ⟨by decide, by decide⟩) hK hP hD hS hA hNN (ci := 5) (q0 := 0) (N := 30) rfl (wM_0 ad cA σ) rfl hl.1 rfl (Nat.le_of_ble_eq_true rfl) dX5_lapses_3 (fun H locs hP hD hS => ?_)
  refine lv_if_ne (tgt := 13) hx hb dX5_lapses_6 (by decide) (fun c_2 => ?_) (fun c_2 => ?_)
  · have hF := iteF hF c_2
    refine lv_aload_n hx hb dX5_lapses_13 rfl (lv_at hl 0 rfl) ?_
    refine va_get (D := D) (ci := 5) (v := .ref (ad 13)) (C := RX5) (T := TX5) (N := 30) hx hb hts hiX5 hown hK hP 0 (wM_0 ad cA σ) rfl 18 (by decide) hw0 (fun _ h9 => h9) rfl dX5_lapses_14 ?_
    refine lv_iload_n hx hb dX5_lapses_17 rfl (lv_at hl 1 rfl) ?_
    obtain ⟨hb_3, hF⟩ := chk_some hF
    refine va_iald hx hb hK hP 13 12 (wM_13 ad cA σ) (tM_13 cA) hb_3 dX5_lapses_18 ?_
    refine lv_iconst (v := 1) hx hb dX5_lapses_19 (by decide) ?_
    refine lv_icmp_ne (tgt := 27) hx hb dX5_lapses_20 (by decide) (fun c_4 => ?_) (fun c_4 => ?_)
    · have hF := iteF hF c_4
      refine lv_iconst (v := 2) hx hb dX5_lapses_27 (by decide) ?_
      obtain ⟨σ5, e5, hF⟩ := stp_some hF
      refine gw_put hx hb hts hiX5 tyX5 tyX5_ok nmX5 hown hK hP hD hS 0 (wM_0 ad cA σ) rfl 0 (by decide) hw2 (fun _ h9 => h9) rfl (by decide +kernel) (show 0 < 30 from by decide) (wMv_0 ad cA σ _) dX5_lapses_28 e5 (fun H locs hP hD hS => ?_)
      refine lv_aload_n hx hb dX5_lapses_31 rfl (lv_at hl 0 rfl) ?_
      refine va_get (D := D) (ci := 5) (v := .int (σ5.2 0)) (C := RX5) (T := TX5) (N := 30) hx hb hts hiX5 hown hK hP 0 (wM_0 ad cA σ5) rfl 0 (by decide) hw2 (fun _ h9 => h9) rfl dX5_lapses_32 ?_
      refine lv_as (y := 2) (by rw [e5]; rfl) ?_
      refine lv_if_le (tgt := 42) hx hb dX5_lapses_35 (by decide) (fun h9 => absurd h9 (by decide)) (fun _ => ?_)
      refine lv_iconst (v := 0) hx hb dX5_lapses_38 (by decide) ?_
      refine lv_goto (tgt := 53) hx hb dX5_lapses_39 (by decide) ?_
      exact g_iretN hx hb hr rfl hlocks hP hK hD hS dX5_lapses_53 hF
    · have hF := iteT hF c_4
      refine lv_iconst (v := 0) hx hb dX5_lapses_23 (by decide) ?_
      refine lv_goto (tgt := 28) hx hb dX5_lapses_24 (by decide) ?_
      obtain ⟨σ6, e6, hF⟩ := stp_some hF
      refine gw_put hx hb hts hiX5 tyX5 tyX5_ok nmX5 hown hK hP hD hS 0 (wM_0 ad cA σ) rfl 0 (by decide) hw2 (fun _ h9 => h9) rfl (by decide +kernel) (show 0 < 30 from by decide) (wMv_0 ad cA σ _) dX5_lapses_28 e6 (fun H locs hP hD hS => ?_)
      refine lv_aload_n hx hb dX5_lapses_31 rfl (lv_at hl 0 rfl) ?_
      refine va_get (D := D) (ci := 5) (v := .int (σ6.2 0)) (C := RX5) (T := TX5) (N := 30) hx hb hts hiX5 hown hK hP 0 (wM_0 ad cA σ6) rfl 0 (by decide) hw2 (fun _ h9 => h9) rfl dX5_lapses_32 ?_
      refine lv_as (y := 0) (by rw [e6]; rfl) ?_
      refine lv_if_le (tgt := 42) hx hb dX5_lapses_35 (by decide) (fun _ => ?_) (fun h9 => absurd h9 (by decide))
      refine lv_aload_n hx hb dX5_lapses_42 rfl (lv_at hl 0 rfl) ?_
      refine va_get (D := D) (ci := 5) (v := .ref (ad 17)) (C := RX5) (T := TX5) (N := 30) hx hb hts hiX5 hown hK hP 0 (wM_0 ad cA σ6) rfl 22 (by decide) hw3 (fun _ h9 => h9) rfl dX5_lapses_43 ?_
      refine lv_iload_n hx hb dX5_lapses_46 rfl (lv_at hl 1 rfl) ?_
      obtain ⟨hb_7, hF⟩ := chk_some hF
      refine va_iald hx hb hK hP 17 16 (wM_17 ad cA σ6) (tM_17 cA) hb_7 dX5_lapses_47 ?_
      refine lv_aload_n hx hb dX5_lapses_48 rfl (lv_at hl 0 rfl) ?_
      refine va_get (D := D) (ci := 5) (v := .int (σ6.2 1)) (C := RX5) (T := TX5) (N := 30) hx hb hts hiX5 hown hK hP 0 (wM_0 ad cA σ6) rfl 1 (by decide) hw4 (fun _ h9 => h9) rfl dX5_lapses_49 ?_
      refine lv_isub hx hb dX5_lapses_52 ?_
      exact g_iretN hx hb hr rfl hlocks hP hK hD hS dX5_lapses_53 hF
  · have hF := iteT hF c_2
    refine lv_iconst (v := 1) hx hb dX5_lapses_9 (by decide) ?_
    refine lv_goto (tgt := 28) hx hb dX5_lapses_10 (by decide) ?_
    obtain ⟨σ8, e8, hF⟩ := stp_some hF
    refine gw_put hx hb hts hiX5 tyX5 tyX5_ok nmX5 hown hK hP hD hS 0 (wM_0 ad cA σ) rfl 0 (by decide) hw2 (fun _ h9 => h9) rfl (by decide +kernel) (show 0 < 30 from by decide) (wMv_0 ad cA σ _) dX5_lapses_28 e8 (fun H locs hP hD hS => ?_)
    refine lv_aload_n hx hb dX5_lapses_31 rfl (lv_at hl 0 rfl) ?_
    refine va_get (D := D) (ci := 5) (v := .int (σ8.2 0)) (C := RX5) (T := TX5) (N := 30) hx hb hts hiX5 hown hK hP 0 (wM_0 ad cA σ8) rfl 0 (by decide) hw2 (fun _ h9 => h9) rfl dX5_lapses_32 ?_
    refine lv_as (y := 1) (by rw [e8]; rfl) ?_
    refine lv_if_le (tgt := 42) hx hb dX5_lapses_35 (by decide) (fun h9 => absurd h9 (by decide)) (fun _ => ?_)
    refine lv_iconst (v := 0) hx hb dX5_lapses_38 (by decide) ?_
    refine lv_goto (tgt := 53) hx hb dX5_lapses_39 (by decide) ?_
    exact g_iretN hx hb hr rfl hlocks hP hK hD hS dX5_lapses_53 hF
set_option maxHeartbeats 4000000 in
set_option maxRecDepth 100000 in
theorem tyc_M_areOn (l : Launch) (D : va_G) (ad : Nat → Nat) (cA : Nat → ClassId) (sz : Nat) (σ : tyS) (p1 : Int32) (p2 : Int32) (r : Int32) (hF : tyf_M_areOn σ p1 p2 = some r) : gMi l yX5_areOn wsX5_areOn ({ frames := 0, cells := 0, slots := 0, locals := 0 } : Room) D (wM ad cA) (tM cA) [.ref (ad 0), .int p1, .int p2] sz σ r σ := by
  refine Met.ofW (cc := cX5_areOn) (maxL := 5) (ret := (some .boolean)) (by decide) rfl ?_
  intro p e s m args below meth c s₁ B hml hv
  obtain ⟨rfl, hsz, hP, hK, hD0, hNN⟩ := hv
  have hx := B.exec
  have hb := B.bytes
  have hr := B.returns
  have hts := atoms_spec (ws := wsX5_areOn) B.pre
  have hown : s.vm.findClass RX5 = some m.cls := findClass_of_methodNamed B.named
  have hlocks := B.notSynchronized
  subst hsz
  have hD := hD0.self (sz := s.heap.size)
  generalize hAe : va_A (wM ad cA σ) s.heap.size = A at hD ⊢
  have hA : ∀ q : Nat, s.heap.size ≤ q → A q := fun q h => by rw [← hAe]; exact Or.inr h
  clear hAe hD0
  have hS : va_S A s.heap s.heap [] := va_S.rf
  have hl := lv_entry ([.ref (ad 0), .int p1, .int p2]) (n := 5) (Nat.le_of_ble_eq_true rfl)
  rw [lg_entry_eq]
  generalize (lg_sl ([.ref (ad 0), .int p1, .int p2]) ++ List.replicate (5 - (lg_sl ([.ref (ad 0), .int p1, .int p2])).length) Slot.unset).toArray = ls at hl ⊢
  have hl : lv_has ls 5 [(0, .ref (ad 0)), (1, .int p1), (2, .int p2)] := hl
  have hw0 := hts (.fieldLink RX5 62 "TrunkYardsModel" "many" "[I") (List.mem_cons_of_mem _ (List.mem_of_getElem? (i := 0) rfl))
  have hiX5 : ∀ w ∈ wsX50, w ∈ wsX5_areOn := fun w h => List.mem_cons_of_mem _ (List.mem_append_right _ h)
  have hw2 := hts (.fieldLink RX5 7 "TrunkYardsModel" "where" "[I") (List.mem_cons_of_mem _ (List.mem_of_getElem? (i := 1) rfl))
  have hw3 := hts (.fieldLink RX5 65 "TrunkYardsModel" "wagonOf" "[I") (List.mem_cons_of_mem _ (List.mem_of_getElem? (i := 2) rfl))
  unfold tyf_M_areOn at hF
  refine lv_iconst (v := 1) hx hb dX5_areOn_0 (by decide) ?_
  refine lv_istore_n (lv' := [(3, .int 1), (0, .ref (ad 0)), (1, .int p1), (2, .int p2)]) hx hb dX5_areOn_1 rfl hl (by decide) rfl (fun ls hl => ?_)
  refine lv_iconst (v := 0) hx hb dX5_areOn_2 (by decide) ?_
  refine lv_istore (lv' := [(4, .int 0), (3, .int 1), (0, .ref (ad 0)), (1, .int p1), (2, .int p2)]) hx hb dX5_areOn_3 hl (by decide) rfl (fun ls hl => ?_)
  have lp5 : ∀ (k : Int32 → Int32 → Int32 → Int32 → Option Int32), (∀ (x1 : Int32) (x2 : Int32) (x3 : Int32) (x4 : Int32) , k x1 x2 x3 x4 = some r → ∀ (H : Heap) (locs : List Loc) (ls : Array Slot), va_P D vwCl (wM ad cA σ) H → va_D A (wM ad cA σ) → va_S A s.heap H locs → lv_has ls 5 [(0, .ref (ad 0)), (1, .int x1), (2, .int x2), (3, .int x3), (4, .int x4)] → W p l e (headSpec wsX5_areOn ({ frames := 0, cells := 0, slots := 0, locals := 0 } : Room)).room s m #[.ref (ad 0), .int p1, .int p2] below meth c H locs 0 0 (MQ below (gQi D (wM ad cA) (tM cA) A r σ) #[.ref (ad 0), .int p1, .int p2] s 0 0 A) (F0 m 53 ls [])) → ∀ (n : Nat), ∀ (x1 : Int32) (x2 : Int32) (x3 : Int32) (x4 : Int32) , tyl_M_areOn_5 σ k n x1 x2 x3 x4 = some r → ∀ (H : Heap) (locs : List Loc) (ls : Array Slot), va_P D vwCl (wM ad cA σ) H → va_D A (wM ad cA σ) → va_S A s.heap H locs → lv_has ls 5 [(0, .ref (ad 0)), (1, .int x1), (2, .int x2), (3, .int x3), (4, .int x4)] → W p l e (headSpec wsX5_areOn ({ frames := 0, cells := 0, slots := 0, locals := 0 } : Room)).room s m #[.ref (ad 0), .int p1, .int p2] below meth c H locs 0 0 (MQ below (gQi D (wM ad cA) (tM cA) A r σ) #[.ref (ad 0), .int p1, .int p2] s 0 0 A) (F0 m 5 ls []) := by
    intro k hk n
    induction n with
    | zero =>
      intro x1 x2 x3 x4 hF
      exact absurd hF (fun h => nomatch h)
    | succ n ih =>
      intro x1 x2 x3 x4 hF H locs ls hP hD hS hl
      have hF : tyb_M_areOn_5 σ k (tyl_M_areOn_5 σ k n) x1 x2 x3 x4 = some r := hF
      unfold tyb_M_areOn_5 at hF
      refine lv_iload hx hb dX5_areOn_5 (lv_at hl 4 rfl) ?_
      refine lv_aload_n hx hb dX5_areOn_7 rfl (lv_at hl 0 rfl) ?_
      refine va_get (D := D) (ci := 5) (v := .ref (ad 18)) (C := RX5) (T := TX5) (N := 30) hx hb hts hiX5 hown hK hP 0 (wM_0 ad cA σ) rfl 23 (by decide) hw0 (fun _ h9 => h9) rfl dX5_areOn_8 ?_
      refine lv_iload_n hx hb dX5_areOn_11 rfl (lv_at hl 1 rfl) ?_
      obtain ⟨hb_1, hF⟩ := chk_some hF
      refine va_iald hx hb hK hP 18 17 (wM_18 ad cA σ) (tM_18 cA) hb_1 dX5_areOn_12 ?_
      refine lv_icmp_ge (tgt := 53) hx hb dX5_areOn_13 (by decide) (fun c_2 => ?_) (fun c_2 => ?_)
      · have hF := iteT hF c_2
        exact hk  x1 x2 x3 x4 hF _ _ _ hP hD hS (lv_sub hl [0, 1, 2, 3, 4] rfl)
      · have hF := iteF hF c_2
        refine lv_iload_n hx hb dX5_areOn_16 rfl (lv_at hl 3 rfl) ?_
        refine lv_if_eq (tgt := 45) hx hb dX5_areOn_17 (by decide) (fun c_3 => ?_) (fun c_3 => ?_)
        · have hF := iteT hF c_3
          refine lv_iconst (v := 0) hx hb dX5_areOn_45 (by decide) ?_
          refine lv_istore_n (lv' := [(3, .int 0), (0, .ref (ad 0)), (1, .int x1), (2, .int x2), (4, .int x4)]) hx hb dX5_areOn_46 rfl hl (by decide) rfl (fun ls hl => ?_)
          refine lv_iinc (v := (x4 + 1)) (lv' := [(4, .int (x4 + 1)), (3, .int 0), (0, .ref (ad 0)), (1, .int x1), (2, .int x2)]) hx hb dX5_areOn_47 hl (k := 4) rfl rfl (by decide) rfl (fun ls hl => ?_)
          refine lv_goto (tgt := 5) hx hb dX5_areOn_50 (by decide) ?_
          exact ih  x1 x2 0 (x4 + 1) hF _ _ _ hP hD hS (lv_sub hl [2, 3, 4, 1, 0] rfl)
        · have hF := iteF hF c_3
          refine lv_aload_n hx hb dX5_areOn_20 rfl (lv_at hl 0 rfl) ?_
          refine va_get (D := D) (ci := 5) (v := .ref (ad 1)) (C := RX5) (T := TX5) (N := 30) hx hb hts hiX5 hown hK hP 0 (wM_0 ad cA σ) rfl 3 (by decide) hw2 (fun _ h9 => h9) rfl dX5_areOn_21 ?_
          refine lv_aload_n hx hb dX5_areOn_24 rfl (lv_at hl 0 rfl) ?_
          refine va_get (D := D) (ci := 5) (v := .ref (ad 19)) (C := RX5) (T := TX5) (N := 30) hx hb hts hiX5 hown hK hP 0 (wM_0 ad cA σ) rfl 24 (by decide) hw3 (fun _ h9 => h9) rfl dX5_areOn_25 ?_
          refine lv_bipush (v := 30) hx hb dX5_areOn_28 (by decide) ?_
          refine lv_iload_n hx hb dX5_areOn_30 rfl (lv_at hl 1 rfl) ?_
          refine lv_imul hx hb dX5_areOn_31 ?_
          refine lv_iload hx hb dX5_areOn_32 (lv_at hl 4 rfl) ?_
          refine lv_iadd hx hb dX5_areOn_34 ?_
          obtain ⟨hb_4, hF⟩ := chk_some hF
          refine va_iald hx hb hK hP 19 18 (wM_19 ad cA σ) (tM_19 cA) hb_4 dX5_areOn_35 ?_
          obtain ⟨hb_5, hF⟩ := chk_some hF
          refine va_iald hx hb hK hP 1 0 (wM_1 ad cA σ) (tM_1 cA) hb_5 dX5_areOn_36 ?_
          refine lv_iload_n hx hb dX5_areOn_37 rfl (lv_at hl 2 rfl) ?_
          refine lv_icmp_ne (tgt := 45) hx hb dX5_areOn_38 (by decide) (fun c_6 => ?_) (fun c_6 => ?_)
          · have hF := iteF hF c_6
            refine lv_iconst (v := 0) hx hb dX5_areOn_45 (by decide) ?_
            refine lv_istore_n (lv' := [(3, .int 0), (0, .ref (ad 0)), (1, .int x1), (2, .int x2), (4, .int x4)]) hx hb dX5_areOn_46 rfl hl (by decide) rfl (fun ls hl => ?_)
            refine lv_iinc (v := (x4 + 1)) (lv' := [(4, .int (x4 + 1)), (3, .int 0), (0, .ref (ad 0)), (1, .int x1), (2, .int x2)]) hx hb dX5_areOn_47 hl (k := 4) rfl rfl (by decide) rfl (fun ls hl => ?_)
            refine lv_goto (tgt := 5) hx hb dX5_areOn_50 (by decide) ?_
            exact ih  x1 x2 0 (x4 + 1) hF _ _ _ hP hD hS (lv_sub hl [2, 3, 4, 1, 0] rfl)
          · have hF := iteT hF c_6
            refine lv_iconst (v := 1) hx hb dX5_areOn_41 (by decide) ?_
            refine lv_goto (tgt := 46) hx hb dX5_areOn_42 (by decide) ?_
            refine lv_istore_n (lv' := [(3, .int 1), (0, .ref (ad 0)), (1, .int x1), (2, .int x2), (4, .int x4)]) hx hb dX5_areOn_46 rfl hl (by decide) rfl (fun ls hl => ?_)
            refine lv_iinc (v := (x4 + 1)) (lv' := [(4, .int (x4 + 1)), (3, .int 1), (0, .ref (ad 0)), (1, .int x1), (2, .int x2)]) hx hb dX5_areOn_47 hl (k := 4) rfl rfl (by decide) rfl (fun ls hl => ?_)
            refine lv_goto (tgt := 5) hx hb dX5_areOn_50 (by decide) ?_
            exact ih  x1 x2 1 (x4 + 1) hF _ _ _ hP hD hS (lv_sub hl [2, 3, 4, 1, 0] rfl)
  refine lp5 _ ?_ 64  p1 p2 1 0 hF _ _ _ hP hD hS (lv_sub hl [2, 3, 4, 1, 0] rfl)
  intro x1 x2 x3 x4 hF H locs ls hP hD hS hl
  refine lv_iload_n hx hb dX5_areOn_53 rfl (lv_at hl 3 rfl) ?_
  obtain ⟨hn_7, hF⟩ := chkb_some hF
  have hn_7 := of_decide_eq_true hn_7
  exact g_iretR hx hb hr (congrArg Value.int hn_7) hlocks hP hK hD hS dX5_areOn_54 hF
