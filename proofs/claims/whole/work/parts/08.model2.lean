set_option maxHeartbeats 4000000 in
set_option maxRecDepth 100000 in
theorem tyc_M_wagonAt (l : Launch) (D : va_G) (ad : Nat → Nat) (cA : Nat → ClassId) (sz : Nat) (σ : tyS) (p1 : Int32) (p2 : Int32) (p3 : Int32) (r : Int32) (τ : tyS) (hF : tyf_M_wagonAt σ p1 p2 p3 = some (r, τ)) : gMi l yX5_wagonAt wsX5_wagonAt ({ frames := 3, cells := 0, slots := 0, locals := 63 } : Room) D (wM ad cA) (tM cA) [.ref (ad 0), .int p1, .int p2, .int p3] sz σ r τ := by
  refine Met.ofW (cc := cX5_wagonAt) (maxL := 4) (ret := (some .int)) (by decide) rfl ?_
  intro p e s m args below meth c s₁ B hml hv
  obtain ⟨rfl, hsz, hP, hK, hD0, hNN⟩ := hv
  have hx := B.exec
  have hb := B.bytes
  have hr := B.returns
  have hts := atoms_spec (ws := wsX5_wagonAt) B.pre
  have hown : s.vm.findClass RX5 = some m.cls := findClass_of_methodNamed B.named
  have hlocks := B.notSynchronized
  subst hsz
  have hD := hD0.self (sz := s.heap.size)
  generalize hAe : va_A (wM ad cA σ) s.heap.size = A at hD ⊢
  have hA : ∀ q : Nat, s.heap.size ≤ q → A q := fun q h => by rw [← hAe]; exact Or.inr h
  clear hAe hD0
  have hS : va_S A s.heap s.heap [] := va_S.rf
  have hl := lv_entry ([.ref (ad 0), .int p1, .int p2, .int p3]) (n := 4) (Nat.le_of_ble_eq_true rfl)
  rw [lg_entry_eq]
  generalize (lg_sl ([.ref (ad 0), .int p1, .int p2, .int p3]) ++ List.replicate (4 - (lg_sl ([.ref (ad 0), .int p1, .int p2, .int p3])).length) Slot.unset).toArray = ls at hl ⊢
  have hl : lv_has ls 4 [(0, .ref (ad 0)), (1, .int p1), (2, .int p2), (3, .int p3)] := hl
  have hS9 : CallFix p m c cX5_wagonAt 4 s _ wsX5_wagonAt RX5 := ⟨hx, hb, hml, hown, hts⟩
  have hw0 := hts (.fieldLink RX5 19 "TrunkYardsModel" "on" "[I") (List.mem_cons_of_mem _ (List.mem_of_getElem? (i := 0) rfl))
  have hiX5 : ∀ w ∈ wsX50, w ∈ wsX5_wagonAt := fun w h => List.mem_cons_of_mem _ (List.mem_append_right _ h)
  have hw2 := hts (.fieldLink RX5 80 "TrunkYardsModel" "thrown" "I") (List.mem_cons_of_mem _ (List.mem_of_getElem? (i := 1) rfl))
  have hw3 := hts (.fieldLink RX5 22 "TrunkYardsModel" "track" "[I") (List.mem_cons_of_mem _ (List.mem_of_getElem? (i := 2) rfl))
  unfold tyf_M_wagonAt at hF
  refine lv_aload_n hx hb dX5_wagonAt_0 rfl (lv_at hl 0 rfl) ?_
  refine lv_iload_n hx hb dX5_wagonAt_1 rfl (lv_at hl 1 rfl) ?_
  refine lv_iload_n hx hb dX5_wagonAt_2 rfl (lv_at hl 2 rfl) ?_
  obtain ⟨r1, er1, hF⟩ := bR_some hF
  refine gc_Si (As := [.int p1, .int p2]) hS9 (tyc_M_isTrack l D ad cA _ σ p1 p2 r1 er1) (va_cwS 2 hts gX5_wagonAt_X5_isTrack rfl rfl rfl hd_X5_isTrack ⟨by decide, by decide⟩) hK hP hD hS hA hNN rfl hl.1 rfl (Nat.le_of_ble_eq_true rfl) dX5_wagonAt_3 (fun H locs hP hD hS => ?_)
  refine lv_if_ne (tgt := 13) hx hb dX5_wagonAt_6 (by decide) (fun c_2 => ?_) (fun c_2 => ?_)
  · have hF := iteF hF c_2
    refine lv_iload_n hx hb dX5_wagonAt_13 rfl (lv_at hl 3 rfl) ?_
    refine lv_iconst (v := 0) hx hb dX5_wagonAt_14 (by decide) ?_
    refine lv_aload_n hx hb dX5_wagonAt_15 rfl (lv_at hl 0 rfl) ?_
    refine va_get (D := D) (ci := 5) (v := .ref (ad 4)) (C := RX5) (T := TX5) (N := 30) hx hb hts hiX5 hown hK hP 0 (wM_0 ad cA σ) rfl 6 (by decide) hw0 (fun _ h9 => h9) rfl dX5_wagonAt_16 ?_
    refine lv_iconst (v := 5) hx hb dX5_wagonAt_19 (by decide) ?_
    refine lv_iload_n hx hb dX5_wagonAt_20 rfl (lv_at hl 1 rfl) ?_
    refine lv_imul hx hb dX5_wagonAt_21 ?_
    refine lv_iload_n hx hb dX5_wagonAt_22 rfl (lv_at hl 2 rfl) ?_
    refine lv_iadd hx hb dX5_wagonAt_23 ?_
    obtain ⟨hb_3, hF⟩ := chk_some hF
    refine va_iald hx hb hK hP 4 3 (wM_4 ad cA σ) (tM_4 cA) hb_3 dX5_wagonAt_24 ?_
    refine lv_iconst (v := 1) hx hb dX5_wagonAt_25 (by decide) ?_
    refine lv_isub hx hb dX5_wagonAt_26 ?_
    obtain ⟨r4, er4, hF⟩ := bR_some hF
    refine gc_Si (As := [.int p3, .int 0, .int ((σ.1 4 (((5 * p1) + p2)).toNatClampNeg) - 1)]) hS9 (tyc_M_in l D ad cA _ σ p3 0 ((σ.1 4 (((5 * p1) + p2)).toNatClampNeg) - 1) r4 er4) (va_cwS 3 hts gX5_wagonAt_X5_in rfl rfl rfl hd_X5_in ⟨by decide, by decide⟩) hK hP hD hS hA hNN rfl hl.1 rfl (Nat.le_of_ble_eq_true rfl) dX5_wagonAt_27 (fun H locs hP hD hS => ?_)
    refine lv_if_eq (tgt := 37) hx hb dX5_wagonAt_30 (by decide) (fun c_5 => ?_) (fun c_5 => ?_)
    · have hF := iteT hF c_5
      refine lv_iconst (v := 2) hx hb dX5_wagonAt_37 (by decide) ?_
      obtain ⟨σ6, e6, hF⟩ := stp_some hF
      refine gw_put hx hb hts hiX5 tyX5 tyX5_ok nmX5 hown hK hP hD hS 0 (wM_0 ad cA σ) rfl 0 (by decide) hw2 (fun _ h9 => h9) rfl (by decide +kernel) (show 0 < 30 from by decide) (wMv_0 ad cA σ _) dX5_wagonAt_38 e6 (fun H locs hP hD hS => ?_)
      refine lv_aload_n hx hb dX5_wagonAt_41 rfl (lv_at hl 0 rfl) ?_
      refine va_get (D := D) (ci := 5) (v := .int (σ6.2 0)) (C := RX5) (T := TX5) (N := 30) hx hb hts hiX5 hown hK hP 0 (wM_0 ad cA σ6) rfl 0 (by decide) hw2 (fun _ h9 => h9) rfl dX5_wagonAt_42 ?_
      refine lv_as (y := 2) (by rw [e6]; rfl) ?_
      refine lv_if_le (tgt := 52) hx hb dX5_wagonAt_45 (by decide) (fun h9 => absurd h9 (by decide)) (fun _ => ?_)
      refine lv_iconst (v := 0) hx hb dX5_wagonAt_48 (by decide) ?_
      refine lv_goto (tgt := 67) hx hb dX5_wagonAt_49 (by decide) ?_
      exact g_iretN hx hb hr rfl hlocks hP hK hD hS dX5_wagonAt_67 hF
    · have hF := iteF hF c_5
      refine lv_iconst (v := 0) hx hb dX5_wagonAt_33 (by decide) ?_
      refine lv_goto (tgt := 38) hx hb dX5_wagonAt_34 (by decide) ?_
      obtain ⟨σ7, e7, hF⟩ := stp_some hF
      refine gw_put hx hb hts hiX5 tyX5 tyX5_ok nmX5 hown hK hP hD hS 0 (wM_0 ad cA σ) rfl 0 (by decide) hw2 (fun _ h9 => h9) rfl (by decide +kernel) (show 0 < 30 from by decide) (wMv_0 ad cA σ _) dX5_wagonAt_38 e7 (fun H locs hP hD hS => ?_)
      refine lv_aload_n hx hb dX5_wagonAt_41 rfl (lv_at hl 0 rfl) ?_
      refine va_get (D := D) (ci := 5) (v := .int (σ7.2 0)) (C := RX5) (T := TX5) (N := 30) hx hb hts hiX5 hown hK hP 0 (wM_0 ad cA σ7) rfl 0 (by decide) hw2 (fun _ h9 => h9) rfl dX5_wagonAt_42 ?_
      refine lv_as (y := 0) (by rw [e7]; rfl) ?_
      refine lv_if_le (tgt := 52) hx hb dX5_wagonAt_45 (by decide) (fun _ => ?_) (fun h9 => absurd h9 (by decide))
      refine lv_aload_n hx hb dX5_wagonAt_52 rfl (lv_at hl 0 rfl) ?_
      refine va_get (D := D) (ci := 5) (v := .ref (ad 5)) (C := RX5) (T := TX5) (N := 30) hx hb hts hiX5 hown hK hP 0 (wM_0 ad cA σ7) rfl 7 (by decide) hw3 (fun _ h9 => h9) rfl dX5_wagonAt_53 ?_
      refine lv_bipush (v := 6) hx hb dX5_wagonAt_56 (by decide) ?_
      refine lv_iconst (v := 5) hx hb dX5_wagonAt_58 (by decide) ?_
      refine lv_iload_n hx hb dX5_wagonAt_59 rfl (lv_at hl 1 rfl) ?_
      refine lv_imul hx hb dX5_wagonAt_60 ?_
      refine lv_iload_n hx hb dX5_wagonAt_61 rfl (lv_at hl 2 rfl) ?_
      refine lv_iadd hx hb dX5_wagonAt_62 ?_
      refine lv_imul hx hb dX5_wagonAt_63 ?_
      refine lv_iload_n hx hb dX5_wagonAt_64 rfl (lv_at hl 3 rfl) ?_
      refine lv_iadd hx hb dX5_wagonAt_65 ?_
      obtain ⟨hb_8, hF⟩ := chk_some hF
      refine va_iald hx hb hK hP 5 4 (wM_5 ad cA σ7) (tM_5 cA) hb_8 dX5_wagonAt_66 ?_
      exact g_iretN hx hb hr rfl hlocks hP hK hD hS dX5_wagonAt_67 hF
  · have hF := iteT hF c_2
    refine lv_iconst (v := 1) hx hb dX5_wagonAt_9 (by decide) ?_
    refine lv_goto (tgt := 38) hx hb dX5_wagonAt_10 (by decide) ?_
    obtain ⟨σ9, e9, hF⟩ := stp_some hF
    refine gw_put hx hb hts hiX5 tyX5 tyX5_ok nmX5 hown hK hP hD hS 0 (wM_0 ad cA σ) rfl 0 (by decide) hw2 (fun _ h9 => h9) rfl (by decide +kernel) (show 0 < 30 from by decide) (wMv_0 ad cA σ _) dX5_wagonAt_38 e9 (fun H locs hP hD hS => ?_)
    refine lv_aload_n hx hb dX5_wagonAt_41 rfl (lv_at hl 0 rfl) ?_
    refine va_get (D := D) (ci := 5) (v := .int (σ9.2 0)) (C := RX5) (T := TX5) (N := 30) hx hb hts hiX5 hown hK hP 0 (wM_0 ad cA σ9) rfl 0 (by decide) hw2 (fun _ h9 => h9) rfl dX5_wagonAt_42 ?_
    refine lv_as (y := 1) (by rw [e9]; rfl) ?_
    refine lv_if_le (tgt := 52) hx hb dX5_wagonAt_45 (by decide) (fun h9 => absurd h9 (by decide)) (fun _ => ?_)
    refine lv_iconst (v := 0) hx hb dX5_wagonAt_48 (by decide) ?_
    refine lv_goto (tgt := 67) hx hb dX5_wagonAt_49 (by decide) ?_
    exact g_iretN hx hb hr rfl hlocks hP hK hD hS dX5_wagonAt_67 hF
set_option maxHeartbeats 4000000 in
set_option maxRecDepth 100000 in
theorem tyc_M_at (l : Launch) (D : va_G) (ad : Nat → Nat) (cA : Nat → ClassId) (sz : Nat) (σ : tyS) (p1 : Int32) (p2 : Int32) (p3 : Int32) (r : Int32) (τ : tyS) (hF : tyf_M_at σ p1 p2 p3 = some (r, τ)) : gMi l yX5_at wsX5_at ({ frames := 4, cells := 0, slots := 0, locals := 86 } : Room) D (wM ad cA) (tM cA) [.ref (ad 0), .int p1, .int p2, .int p3] sz σ r τ := by
  refine Met.ofW (cc := cX5_at) (maxL := 4) (ret := (some .int)) (by decide) rfl ?_
  intro p e s m args below meth c s₁ B hml hv
  obtain ⟨rfl, hsz, hP, hK, hD0, hNN⟩ := hv
  have hx := B.exec
  have hb := B.bytes
  have hr := B.returns
  have hts := atoms_spec (ws := wsX5_at) B.pre
  have hown : s.vm.findClass RX5 = some m.cls := findClass_of_methodNamed B.named
  have hlocks := B.notSynchronized
  subst hsz
  have hD := hD0.self (sz := s.heap.size)
  generalize hAe : va_A (wM ad cA σ) s.heap.size = A at hD ⊢
  have hA : ∀ q : Nat, s.heap.size ≤ q → A q := fun q h => by rw [← hAe]; exact Or.inr h
  clear hAe hD0
  have hS : va_S A s.heap s.heap [] := va_S.rf
  have hl := lv_entry ([.ref (ad 0), .int p1, .int p2, .int p3]) (n := 4) (Nat.le_of_ble_eq_true rfl)
  rw [lg_entry_eq]
  generalize (lg_sl ([.ref (ad 0), .int p1, .int p2, .int p3]) ++ List.replicate (4 - (lg_sl ([.ref (ad 0), .int p1, .int p2, .int p3])).length) Slot.unset).toArray = ls at hl ⊢
  have hl : lv_has ls 4 [(0, .ref (ad 0)), (1, .int p1), (2, .int p2), (3, .int p3)] := hl
  have hS9 : CallFix p m c cX5_at 4 s _ wsX5_at RX5 := ⟨hx, hb, hml, hown, hts⟩
  unfold tyf_M_at at hF
  refine lv_aload_n hx hb dX5_at_0 rfl (lv_at hl 0 rfl) ?_
  refine lv_iload_n hx hb dX5_at_1 rfl (lv_at hl 1 rfl) ?_
  refine lv_iload_n hx hb dX5_at_2 rfl (lv_at hl 2 rfl) ?_
  refine lv_iload_n hx hb dX5_at_3 rfl (lv_at hl 3 rfl) ?_
  obtain ⟨r2, σ1, er2, hF⟩ := bN_some hF
  refine gc_Vi (As := [.int p1, .int p2, .int p3]) hS9 (tyc_M_wagonAt l D ad cA _ σ p1 p2 p3 r2 σ1 er2) (cwV 3 hts gX5_at_X5_wagonAt rfl rfl rfl hd_X5_wagonAt ⟨by decide, by decide⟩) hK hP hD hS hA hNN (ci := 5) (q0 := 0) (N := 30) rfl (wM_0 ad cA σ) rfl hl.1 rfl (Nat.le_of_ble_eq_true rfl) dX5_at_4 (fun H locs hP hD hS => ?_)
  exact g_iretN hx hb hr rfl hlocks hP hK hD hS dX5_at_7 hF
set_option maxHeartbeats 4000000 in
set_option maxRecDepth 100000 in
theorem tyc_M_atByReplay (l : Launch) (D : va_G) (ad : Nat → Nat) (cA : Nat → ClassId) (sz : Nat) (σ : tyS) (p1 : Int32) (p2 : Int32) (p3 : Int32) (r : Int32) (τ : tyS) (hF : tyf_M_atByReplay σ p1 p2 p3 = some (r, τ)) : gMi l yX5_atByReplay wsX5_atByReplay ({ frames := 4, cells := 0, slots := 0, locals := 86 } : Room) D (wM ad cA) (tM cA) [.ref (ad 0), .int p1, .int p2, .int p3] sz σ r τ := by
  refine Met.ofW (cc := cX5_atByReplay) (maxL := 4) (ret := (some .int)) (by decide) rfl ?_
  intro p e s m args below meth c s₁ B hml hv
  obtain ⟨rfl, hsz, hP, hK, hD0, hNN⟩ := hv
  have hx := B.exec
  have hb := B.bytes
  have hr := B.returns
  have hts := atoms_spec (ws := wsX5_atByReplay) B.pre
  have hown : s.vm.findClass RX5 = some m.cls := findClass_of_methodNamed B.named
  have hlocks := B.notSynchronized
  subst hsz
  have hD := hD0.self (sz := s.heap.size)
  generalize hAe : va_A (wM ad cA σ) s.heap.size = A at hD ⊢
  have hA : ∀ q : Nat, s.heap.size ≤ q → A q := fun q h => by rw [← hAe]; exact Or.inr h
  clear hAe hD0
  have hS : va_S A s.heap s.heap [] := va_S.rf
  have hl := lv_entry ([.ref (ad 0), .int p1, .int p2, .int p3]) (n := 4) (Nat.le_of_ble_eq_true rfl)
  rw [lg_entry_eq]
  generalize (lg_sl ([.ref (ad 0), .int p1, .int p2, .int p3]) ++ List.replicate (4 - (lg_sl ([.ref (ad 0), .int p1, .int p2, .int p3])).length) Slot.unset).toArray = ls at hl ⊢
  have hl : lv_has ls 4 [(0, .ref (ad 0)), (1, .int p1), (2, .int p2), (3, .int p3)] := hl
  have hS9 : CallFix p m c cX5_atByReplay 4 s _ wsX5_atByReplay RX5 := ⟨hx, hb, hml, hown, hts⟩
  unfold tyf_M_atByReplay at hF
  refine lv_aload_n hx hb dX5_atByReplay_0 rfl (lv_at hl 0 rfl) ?_
  refine lv_iload_n hx hb dX5_atByReplay_1 rfl (lv_at hl 1 rfl) ?_
  refine lv_iload_n hx hb dX5_atByReplay_2 rfl (lv_at hl 2 rfl) ?_
  refine lv_iload_n hx hb dX5_atByReplay_3 rfl (lv_at hl 3 rfl) ?_
  obtain ⟨r2, σ1, er2, hF⟩ := bN_some hF
  refine gc_Vi (As := [.int p1, .int p2, .int p3]) hS9 (tyc_M_wagonAt l D ad cA _ σ p1 p2 p3 r2 σ1 er2) (cwV 3 hts gX5_atByReplay_X5_wagonAt rfl rfl rfl hd_X5_wagonAt ⟨by decide, by decide⟩) hK hP hD hS hA hNN (ci := 5) (q0 := 0) (N := 30) rfl (wM_0 ad cA σ) rfl hl.1 rfl (Nat.le_of_ble_eq_true rfl) dX5_atByReplay_4 (fun H locs hP hD hS => ?_)
  exact g_iretN hx hb hr rfl hlocks hP hK hD hS dX5_atByReplay_7 hF
set_option maxHeartbeats 4000000 in
set_option maxRecDepth 100000 in
theorem tyc_M_isWagon (l : Launch) (D : va_G) (ad : Nat → Nat) (cA : Nat → ClassId) (sz : Nat) (σ : tyS) (p1 : Int32) (r : Int32) (hF : tyf_M_isWagon σ p1 = some r) : gMi l yX5_isWagon wsX5_isWagon ({ frames := 1, cells := 0, slots := 0, locals := 22 } : Room) D (wM ad cA) (tM cA) [.ref (ad 0), .int p1] sz σ r σ := by
  refine Met.ofW (cc := cX5_isWagon) (maxL := 2) (ret := (some .boolean)) (by decide) rfl ?_
  intro p e s m args below meth c s₁ B hml hv
  obtain ⟨rfl, hsz, hP, hK, hD0, hNN⟩ := hv
  have hx := B.exec
  have hb := B.bytes
  have hr := B.returns
  have hts := atoms_spec (ws := wsX5_isWagon) B.pre
  have hown : s.vm.findClass RX5 = some m.cls := findClass_of_methodNamed B.named
  have hlocks := B.notSynchronized
  subst hsz
  have hD := hD0.self (sz := s.heap.size)
  generalize hAe : va_A (wM ad cA σ) s.heap.size = A at hD ⊢
  have hA : ∀ q : Nat, s.heap.size ≤ q → A q := fun q h => by rw [← hAe]; exact Or.inr h
  clear hAe hD0
  have hS : va_S A s.heap s.heap [] := va_S.rf
  have hl := lv_entry ([.ref (ad 0), .int p1]) (n := 2) (Nat.le_of_ble_eq_true rfl)
  rw [lg_entry_eq]
  generalize (lg_sl ([.ref (ad 0), .int p1]) ++ List.replicate (2 - (lg_sl ([.ref (ad 0), .int p1])).length) Slot.unset).toArray = ls at hl ⊢
  have hl : lv_has ls 2 [(0, .ref (ad 0)), (1, .int p1)] := hl
  have hS9 : CallFix p m c cX5_isWagon 2 s _ wsX5_isWagon RX5 := ⟨hx, hb, hml, hown, hts⟩
  have hw0 := hts (.fieldLink RX5 92 "TrunkYardsModel" "wagons" "I") (List.mem_cons_of_mem _ (List.mem_of_getElem? (i := 0) rfl))
  have hiX5 : ∀ w ∈ wsX50, w ∈ wsX5_isWagon := fun w h => List.mem_cons_of_mem _ (List.mem_append_right _ h)
  unfold tyf_M_isWagon at hF
  refine lv_iload_n hx hb dX5_isWagon_0 rfl (lv_at hl 1 rfl) ?_
  refine lv_iconst (v := 0) hx hb dX5_isWagon_1 (by decide) ?_
  refine lv_aload_n hx hb dX5_isWagon_2 rfl (lv_at hl 0 rfl) ?_
  refine va_get (D := D) (ci := 5) (v := .int (σ.2 2)) (C := RX5) (T := TX5) (N := 30) hx hb hts hiX5 hown hK hP 0 (wM_0 ad cA σ) rfl 2 (by decide) hw0 (fun _ h9 => h9) rfl dX5_isWagon_3 ?_
  refine lv_iconst (v := 1) hx hb dX5_isWagon_6 (by decide) ?_
  refine lv_isub hx hb dX5_isWagon_7 ?_
  obtain ⟨r1, er1, hF⟩ := bR_some hF
  refine gc_Si (As := [.int p1, .int 0, .int ((σ.2 2) - 1)]) hS9 (tyc_M_in l D ad cA _ σ p1 0 ((σ.2 2) - 1) r1 er1) (va_cwS 3 hts gX5_isWagon_X5_in rfl rfl rfl hd_X5_in ⟨by decide, by decide⟩) hK hP hD hS hA hNN rfl hl.1 rfl (Nat.le_of_ble_eq_true rfl) dX5_isWagon_8 (fun H locs hP hD hS => ?_)
  obtain ⟨hn_2, hF⟩ := chkb_some hF
  have hn_2 := of_decide_eq_true hn_2
  exact g_iretR hx hb hr (congrArg Value.int hn_2) hlocks hP hK hD hS dX5_isWagon_11 hF
set_option maxHeartbeats 4000000 in
set_option maxRecDepth 100000 in
theorem tyc_M_asksWagon (l : Launch) (D : va_G) (ad : Nat → Nat) (cA : Nat → ClassId) (sz : Nat) (σ : tyS) (p1 : Int32) (r : Int32) (τ : tyS) (hF : tyf_M_asksWagon σ p1 = some (r, τ)) : gMi l yX5_asksWagon wsX5_asksWagon ({ frames := 2, cells := 0, slots := 0, locals := 43 } : Room) D (wM ad cA) (tM cA) [.ref (ad 0), .int p1] sz σ r τ := by
  refine Met.ofW (cc := cX5_asksWagon) (maxL := 2) (ret := (some .boolean)) (by decide) rfl ?_
  intro p e s m args below meth c s₁ B hml hv
  obtain ⟨rfl, hsz, hP, hK, hD0, hNN⟩ := hv
  have hx := B.exec
  have hb := B.bytes
  have hr := B.returns
  have hts := atoms_spec (ws := wsX5_asksWagon) B.pre
  have hown : s.vm.findClass RX5 = some m.cls := findClass_of_methodNamed B.named
  have hlocks := B.notSynchronized
  subst hsz
  have hD := hD0.self (sz := s.heap.size)
  generalize hAe : va_A (wM ad cA σ) s.heap.size = A at hD ⊢
  have hA : ∀ q : Nat, s.heap.size ≤ q → A q := fun q h => by rw [← hAe]; exact Or.inr h
  clear hAe hD0
  have hS : va_S A s.heap s.heap [] := va_S.rf
  have hl := lv_entry ([.ref (ad 0), .int p1]) (n := 2) (Nat.le_of_ble_eq_true rfl)
  rw [lg_entry_eq]
  generalize (lg_sl ([.ref (ad 0), .int p1]) ++ List.replicate (2 - (lg_sl ([.ref (ad 0), .int p1])).length) Slot.unset).toArray = ls at hl ⊢
  have hl : lv_has ls 2 [(0, .ref (ad 0)), (1, .int p1)] := hl
  have hS9 : CallFix p m c cX5_asksWagon 2 s _ wsX5_asksWagon RX5 := ⟨hx, hb, hml, hown, hts⟩
  have hw0 := hts (.fieldLink RX5 80 "TrunkYardsModel" "thrown" "I") (List.mem_cons_of_mem _ (List.mem_of_getElem? (i := 0) rfl))
  have hiX5 : ∀ w ∈ wsX50, w ∈ wsX5_asksWagon := fun w h => List.mem_cons_of_mem _ (List.mem_append_right _ h)
  unfold tyf_M_asksWagon at hF
  refine lv_aload_n hx hb dX5_asksWagon_0 rfl (lv_at hl 0 rfl) ?_
  refine lv_aload_n hx hb dX5_asksWagon_1 rfl (lv_at hl 0 rfl) ?_
  refine lv_iload_n hx hb dX5_asksWagon_2 rfl (lv_at hl 1 rfl) ?_
  obtain ⟨r1, er1, hF⟩ := bR_some hF
  refine gc_Vi (As := [.int p1]) hS9 (tyc_M_isWagon l D ad cA _ σ p1 r1 er1) (cwV 1 hts gX5_asksWagon_X5_isWagon rfl rfl rfl hd_X5_isWagon ⟨by decide, by decide⟩) hK hP hD hS hA hNN (ci := 5) (q0 := 0) (N := 30) rfl (wM_0 ad cA σ) rfl hl.1 rfl (Nat.le_of_ble_eq_true rfl) dX5_asksWagon_3 (fun H locs hP hD hS => ?_)
  refine lv_if_eq (tgt := 13) hx hb dX5_asksWagon_6 (by decide) (fun c_2 => ?_) (fun c_2 => ?_)
  · have hF := iteT hF c_2
    refine lv_iconst (v := 1) hx hb dX5_asksWagon_13 (by decide) ?_
    obtain ⟨σ3, e3, hF⟩ := stp_some hF
    refine gw_put hx hb hts hiX5 tyX5 tyX5_ok nmX5 hown hK hP hD hS 0 (wM_0 ad cA σ) rfl 0 (by decide) hw0 (fun _ h9 => h9) rfl (by decide +kernel) (show 0 < 30 from by decide) (wMv_0 ad cA σ _) dX5_asksWagon_14 e3 (fun H locs hP hD hS => ?_)
    refine lv_aload_n hx hb dX5_asksWagon_17 rfl (lv_at hl 0 rfl) ?_
    refine va_get (D := D) (ci := 5) (v := .int (σ3.2 0)) (C := RX5) (T := TX5) (N := 30) hx hb hts hiX5 hown hK hP 0 (wM_0 ad cA σ3) rfl 0 (by decide) hw0 (fun _ h9 => h9) rfl dX5_asksWagon_18 ?_
    refine lv_as (y := 1) (by rw [e3]; rfl) ?_
    refine lv_if_ne (tgt := 28) hx hb dX5_asksWagon_21 (by decide) (fun _ => ?_) (fun h9 => absurd h9 (by decide))
    refine lv_iconst (v := 0) hx hb dX5_asksWagon_28 (by decide) ?_
    exact g_iretN hx hb hr rfl hlocks hP hK hD hS dX5_asksWagon_29 hF
  · have hF := iteF hF c_2
    refine lv_iconst (v := 0) hx hb dX5_asksWagon_9 (by decide) ?_
    refine lv_goto (tgt := 14) hx hb dX5_asksWagon_10 (by decide) ?_
    obtain ⟨σ4, e4, hF⟩ := stp_some hF
    refine gw_put hx hb hts hiX5 tyX5 tyX5_ok nmX5 hown hK hP hD hS 0 (wM_0 ad cA σ) rfl 0 (by decide) hw0 (fun _ h9 => h9) rfl (by decide +kernel) (show 0 < 30 from by decide) (wMv_0 ad cA σ _) dX5_asksWagon_14 e4 (fun H locs hP hD hS => ?_)
    refine lv_aload_n hx hb dX5_asksWagon_17 rfl (lv_at hl 0 rfl) ?_
    refine va_get (D := D) (ci := 5) (v := .int (σ4.2 0)) (C := RX5) (T := TX5) (N := 30) hx hb hts hiX5 hown hK hP 0 (wM_0 ad cA σ4) rfl 0 (by decide) hw0 (fun _ h9 => h9) rfl dX5_asksWagon_18 ?_
    refine lv_as (y := 0) (by rw [e4]; rfl) ?_
    refine lv_if_ne (tgt := 28) hx hb dX5_asksWagon_21 (by decide) (fun h9 => absurd h9 (by decide)) (fun _ => ?_)
    refine lv_iconst (v := 1) hx hb dX5_asksWagon_24 (by decide) ?_
    refine lv_goto (tgt := 29) hx hb dX5_asksWagon_25 (by decide) ?_
    exact g_iretN hx hb hr rfl hlocks hP hK hD hS dX5_asksWagon_29 hF
set_option maxHeartbeats 4000000 in
set_option maxRecDepth 100000 in
theorem tyc_M_where (l : Launch) (D : va_G) (ad : Nat → Nat) (cA : Nat → ClassId) (sz : Nat) (σ : tyS) (p1 : Int32) (r : Int32) (τ : tyS) (hF : tyf_M_where σ p1 = some (r, τ)) : gMi l yX5_where wsX5_where ({ frames := 3, cells := 0, slots := 0, locals := 64 } : Room) D (wM ad cA) (tM cA) [.ref (ad 0), .int p1] sz σ r τ := by
  refine Met.ofW (cc := cX5_where) (maxL := 2) (ret := (some .int)) (by decide) rfl ?_
  intro p e s m args below meth c s₁ B hml hv
  obtain ⟨rfl, hsz, hP, hK, hD0, hNN⟩ := hv
  have hx := B.exec
  have hb := B.bytes
  have hr := B.returns
  have hts := atoms_spec (ws := wsX5_where) B.pre
  have hown : s.vm.findClass RX5 = some m.cls := findClass_of_methodNamed B.named
  have hlocks := B.notSynchronized
  subst hsz
  have hD := hD0.self (sz := s.heap.size)
  generalize hAe : va_A (wM ad cA σ) s.heap.size = A at hD ⊢
  have hA : ∀ q : Nat, s.heap.size ≤ q → A q := fun q h => by rw [← hAe]; exact Or.inr h
  clear hAe hD0
  have hS : va_S A s.heap s.heap [] := va_S.rf
  have hl := lv_entry ([.ref (ad 0), .int p1]) (n := 2) (Nat.le_of_ble_eq_true rfl)
  rw [lg_entry_eq]
  generalize (lg_sl ([.ref (ad 0), .int p1]) ++ List.replicate (2 - (lg_sl ([.ref (ad 0), .int p1])).length) Slot.unset).toArray = ls at hl ⊢
  have hl : lv_has ls 2 [(0, .ref (ad 0)), (1, .int p1)] := hl
  have hS9 : CallFix p m c cX5_where 2 s _ wsX5_where RX5 := ⟨hx, hb, hml, hown, hts⟩
  have hw0 := hts (.fieldLink RX5 7 "TrunkYardsModel" "where" "[I") (List.mem_cons_of_mem _ (List.mem_of_getElem? (i := 0) rfl))
  have hiX5 : ∀ w ∈ wsX50, w ∈ wsX5_where := fun w h => List.mem_cons_of_mem _ (List.mem_append_right _ h)
  unfold tyf_M_where at hF
  refine lv_aload_n hx hb dX5_where_0 rfl (lv_at hl 0 rfl) ?_
  refine lv_iload_n hx hb dX5_where_1 rfl (lv_at hl 1 rfl) ?_
  obtain ⟨r2, σ1, er2, hF⟩ := bN_some hF
  refine gc_Vi (As := [.int p1]) hS9 (tyc_M_asksWagon l D ad cA _ σ p1 r2 σ1 er2) (cwV 1 hts gX5_where_X5_asksWagon rfl rfl rfl hd_X5_asksWagon ⟨by decide, by decide⟩) hK hP hD hS hA hNN (ci := 5) (q0 := 0) (N := 30) rfl (wM_0 ad cA σ) rfl hl.1 rfl (Nat.le_of_ble_eq_true rfl) dX5_where_2 (fun H locs hP hD hS => ?_)
  refine lv_if_eq (tgt := 17) hx hb dX5_where_5 (by decide) (fun c_3 => ?_) (fun c_3 => ?_)
  · have hF := iteT hF c_3
    refine lv_iconst (v := 0) hx hb dX5_where_17 (by decide) ?_
    exact g_iretN hx hb hr rfl hlocks hP hK hD hS dX5_where_18 hF
  · have hF := iteF hF c_3
    refine lv_aload_n hx hb dX5_where_8 rfl (lv_at hl 0 rfl) ?_
    refine va_get (D := D) (ci := 5) (v := .ref (ad 1)) (C := RX5) (T := TX5) (N := 30) hx hb hts hiX5 hown hK hP 0 (wM_0 ad cA σ1) rfl 3 (by decide) hw0 (fun _ h9 => h9) rfl dX5_where_9 ?_
    refine lv_iload_n hx hb dX5_where_12 rfl (lv_at hl 1 rfl) ?_
    obtain ⟨hb_4, hF⟩ := chk_some hF
    refine va_iald hx hb hK hP 1 0 (wM_1 ad cA σ1) (tM_1 cA) hb_4 dX5_where_13 ?_
    refine lv_goto (tgt := 18) hx hb dX5_where_14 (by decide) ?_
    exact g_iretN hx hb hr rfl hlocks hP hK hD hS dX5_where_18 hF
set_option maxHeartbeats 4000000 in
set_option maxRecDepth 100000 in
theorem tyc_M_carried (l : Launch) (D : va_G) (ad : Nat → Nat) (cA : Nat → ClassId) (sz : Nat) (σ : tyS) (p1 : Int32) (r : Int32) (τ : tyS) (hF : tyf_M_carried σ p1 = some (r, τ)) : gMi l yX5_carried wsX5_carried ({ frames := 3, cells := 0, slots := 0, locals := 64 } : Room) D (wM ad cA) (tM cA) [.ref (ad 0), .int p1] sz σ r τ := by
  refine Met.ofW (cc := cX5_carried) (maxL := 2) (ret := (some .int)) (by decide) rfl ?_
  intro p e s m args below meth c s₁ B hml hv
  obtain ⟨rfl, hsz, hP, hK, hD0, hNN⟩ := hv
  have hx := B.exec
  have hb := B.bytes
  have hr := B.returns
  have hts := atoms_spec (ws := wsX5_carried) B.pre
  have hown : s.vm.findClass RX5 = some m.cls := findClass_of_methodNamed B.named
  have hlocks := B.notSynchronized
  subst hsz
  have hD := hD0.self (sz := s.heap.size)
  generalize hAe : va_A (wM ad cA σ) s.heap.size = A at hD ⊢
  have hA : ∀ q : Nat, s.heap.size ≤ q → A q := fun q h => by rw [← hAe]; exact Or.inr h
  clear hAe hD0
  have hS : va_S A s.heap s.heap [] := va_S.rf
  have hl := lv_entry ([.ref (ad 0), .int p1]) (n := 2) (Nat.le_of_ble_eq_true rfl)
  rw [lg_entry_eq]
  generalize (lg_sl ([.ref (ad 0), .int p1]) ++ List.replicate (2 - (lg_sl ([.ref (ad 0), .int p1])).length) Slot.unset).toArray = ls at hl ⊢
  have hl : lv_has ls 2 [(0, .ref (ad 0)), (1, .int p1)] := hl
  have hS9 : CallFix p m c cX5_carried 2 s _ wsX5_carried RX5 := ⟨hx, hb, hml, hown, hts⟩
  have hw0 := hts (.fieldLink RX5 13 "TrunkYardsModel" "carried" "[I") (List.mem_cons_of_mem _ (List.mem_of_getElem? (i := 0) rfl))
  have hiX5 : ∀ w ∈ wsX50, w ∈ wsX5_carried := fun w h => List.mem_cons_of_mem _ (List.mem_append_right _ h)
  unfold tyf_M_carried at hF
  refine lv_aload_n hx hb dX5_carried_0 rfl (lv_at hl 0 rfl) ?_
  refine lv_iload_n hx hb dX5_carried_1 rfl (lv_at hl 1 rfl) ?_
  obtain ⟨r2, σ1, er2, hF⟩ := bN_some hF
  refine gc_Vi (As := [.int p1]) hS9 (tyc_M_asksWagon l D ad cA _ σ p1 r2 σ1 er2) (cwV 1 hts gX5_carried_X5_asksWagon rfl rfl rfl hd_X5_asksWagon ⟨by decide, by decide⟩) hK hP hD hS hA hNN (ci := 5) (q0 := 0) (N := 30) rfl (wM_0 ad cA σ) rfl hl.1 rfl (Nat.le_of_ble_eq_true rfl) dX5_carried_2 (fun H locs hP hD hS => ?_)
  refine lv_if_eq (tgt := 17) hx hb dX5_carried_5 (by decide) (fun c_3 => ?_) (fun c_3 => ?_)
  · have hF := iteT hF c_3
    refine lv_iconst (v := 0) hx hb dX5_carried_17 (by decide) ?_
    exact g_iretN hx hb hr rfl hlocks hP hK hD hS dX5_carried_18 hF
  · have hF := iteF hF c_3
    refine lv_aload_n hx hb dX5_carried_8 rfl (lv_at hl 0 rfl) ?_
    refine va_get (D := D) (ci := 5) (v := .ref (ad 2)) (C := RX5) (T := TX5) (N := 30) hx hb hts hiX5 hown hK hP 0 (wM_0 ad cA σ1) rfl 4 (by decide) hw0 (fun _ h9 => h9) rfl dX5_carried_9 ?_
    refine lv_iload_n hx hb dX5_carried_12 rfl (lv_at hl 1 rfl) ?_
    obtain ⟨hb_4, hF⟩ := chk_some hF
    refine va_iald hx hb hK hP 2 1 (wM_2 ad cA σ1) (tM_2 cA) hb_4 dX5_carried_13 ?_
    refine lv_goto (tgt := 18) hx hb dX5_carried_14 (by decide) ?_
    exact g_iretN hx hb hr rfl hlocks hP hK hD hS dX5_carried_18 hF
set_option maxHeartbeats 4000000 in
set_option maxRecDepth 100000 in
theorem tyc_M_isPromised (l : Launch) (D : va_G) (ad : Nat → Nat) (cA : Nat → ClassId) (sz : Nat) (σ : tyS) (p1 : Int32) (r : Int32) (hF : tyf_M_isPromised σ p1 = some r) : gMi l yX5_isPromised wsX5_isPromised ({ frames := 0, cells := 0, slots := 0, locals := 0 } : Room) D (wM ad cA) (tM cA) [.ref (ad 0), .int p1] sz σ r σ := by
  refine Met.ofW (cc := cX5_isPromised) (maxL := 2) (ret := (some .boolean)) (by decide) rfl ?_
  intro p e s m args below meth c s₁ B hml hv
  obtain ⟨rfl, hsz, hP, hK, hD0, hNN⟩ := hv
  have hx := B.exec
  have hb := B.bytes
  have hr := B.returns
  have hts := atoms_spec (ws := wsX5_isPromised) B.pre
  have hown : s.vm.findClass RX5 = some m.cls := findClass_of_methodNamed B.named
  have hlocks := B.notSynchronized
  subst hsz
  have hD := hD0.self (sz := s.heap.size)
  generalize hAe : va_A (wM ad cA σ) s.heap.size = A at hD ⊢
  have hA : ∀ q : Nat, s.heap.size ≤ q → A q := fun q h => by rw [← hAe]; exact Or.inr h
  clear hAe hD0
  have hS : va_S A s.heap s.heap [] := va_S.rf
  have hl := lv_entry ([.ref (ad 0), .int p1]) (n := 2) (Nat.le_of_ble_eq_true rfl)
  rw [lg_entry_eq]
  generalize (lg_sl ([.ref (ad 0), .int p1]) ++ List.replicate (2 - (lg_sl ([.ref (ad 0), .int p1])).length) Slot.unset).toArray = ls at hl ⊢
  have hl : lv_has ls 2 [(0, .ref (ad 0)), (1, .int p1)] := hl
  have hw0 := hts (.fieldLink RX5 16 "TrunkYardsModel" "booking" "[I") (List.mem_cons_of_mem _ (List.mem_of_getElem? (i := 0) rfl))
  have hiX5 : ∀ w ∈ wsX50, w ∈ wsX5_isPromised := fun w h => List.mem_cons_of_mem _ (List.mem_append_right _ h)
  have hw2 := hts (.fieldLink RX5 47 "TrunkYardsModel" "state" "[I") (List.mem_cons_of_mem _ (List.mem_of_getElem? (i := 1) rfl))
  unfold tyf_M_isPromised at hF
  refine lv_aload_n hx hb dX5_isPromised_0 rfl (lv_at hl 0 rfl) ?_
  refine va_get (D := D) (ci := 5) (v := .ref (ad 3)) (C := RX5) (T := TX5) (N := 30) hx hb hts hiX5 hown hK hP 0 (wM_0 ad cA σ) rfl 5 (by decide) hw0 (fun _ h9 => h9) rfl dX5_isPromised_1 ?_
  refine lv_iload_n hx hb dX5_isPromised_4 rfl (lv_at hl 1 rfl) ?_
  obtain ⟨hb_1, hF⟩ := chk_some hF
  refine va_iald hx hb hK hP 3 2 (wM_3 ad cA σ) (tM_3 cA) hb_1 dX5_isPromised_5 ?_
  refine lv_iconst (v := (-1)) hx hb dX5_isPromised_6 (by decide) ?_
  refine lv_icmp_eq (tgt := 29) hx hb dX5_isPromised_7 (by decide) (fun c_2 => ?_) (fun c_2 => ?_)
  · have hF := iteT hF c_2
    refine lv_iconst (v := 0) hx hb dX5_isPromised_29 (by decide) ?_
    exact g_iretR hx hb hr rfl hlocks hP hK hD hS dX5_isPromised_30 hF
  · have hF := iteF hF c_2
    refine lv_aload_n hx hb dX5_isPromised_10 rfl (lv_at hl 0 rfl) ?_
    refine va_get (D := D) (ci := 5) (v := .ref (ad 13)) (C := RX5) (T := TX5) (N := 30) hx hb hts hiX5 hown hK hP 0 (wM_0 ad cA σ) rfl 18 (by decide) hw2 (fun _ h9 => h9) rfl dX5_isPromised_11 ?_
    refine lv_aload_n hx hb dX5_isPromised_14 rfl (lv_at hl 0 rfl) ?_
    refine va_get (D := D) (ci := 5) (v := .ref (ad 3)) (C := RX5) (T := TX5) (N := 30) hx hb hts hiX5 hown hK hP 0 (wM_0 ad cA σ) rfl 5 (by decide) hw0 (fun _ h9 => h9) rfl dX5_isPromised_15 ?_
    refine lv_iload_n hx hb dX5_isPromised_18 rfl (lv_at hl 1 rfl) ?_
    obtain ⟨hb_3, hF⟩ := chk_some hF
    refine va_iald hx hb hK hP 3 2 (wM_3 ad cA σ) (tM_3 cA) hb_3 dX5_isPromised_19 ?_
    obtain ⟨hb_4, hF⟩ := chk_some hF
    refine va_iald hx hb hK hP 13 12 (wM_13 ad cA σ) (tM_13 cA) hb_4 dX5_isPromised_20 ?_
    refine lv_iconst (v := 4) hx hb dX5_isPromised_21 (by decide) ?_
    refine lv_icmp_ge (tgt := 29) hx hb dX5_isPromised_22 (by decide) (fun c_5 => ?_) (fun c_5 => ?_)
    · have hF := iteT hF c_5
      refine lv_iconst (v := 0) hx hb dX5_isPromised_29 (by decide) ?_
      exact g_iretR hx hb hr rfl hlocks hP hK hD hS dX5_isPromised_30 hF
    · have hF := iteF hF c_5
      refine lv_iconst (v := 1) hx hb dX5_isPromised_25 (by decide) ?_
      refine lv_goto (tgt := 30) hx hb dX5_isPromised_26 (by decide) ?_
      exact g_iretR hx hb hr rfl hlocks hP hK hD hS dX5_isPromised_30 hF
set_option maxHeartbeats 4000000 in
set_option maxRecDepth 100000 in
theorem tyc_M_promised (l : Launch) (D : va_G) (ad : Nat → Nat) (cA : Nat → ClassId) (sz : Nat) (σ : tyS) (p1 : Int32) (r : Int32) (τ : tyS) (hF : tyf_M_promised σ p1 = some (r, τ)) : gMi l yX5_promised wsX5_promised ({ frames := 3, cells := 0, slots := 0, locals := 64 } : Room) D (wM ad cA) (tM cA) [.ref (ad 0), .int p1] sz σ r τ := by
  refine Met.ofW (cc := cX5_promised) (maxL := 2) (ret := (some .int)) (by decide) rfl ?_
  intro p e s m args below meth c s₁ B hml hv
  obtain ⟨rfl, hsz, hP, hK, hD0, hNN⟩ := hv
  have hx := B.exec
  have hb := B.bytes
  have hr := B.returns
  have hts := atoms_spec (ws := wsX5_promised) B.pre
  have hown : s.vm.findClass RX5 = some m.cls := findClass_of_methodNamed B.named
  have hlocks := B.notSynchronized
  subst hsz
  have hD := hD0.self (sz := s.heap.size)
  generalize hAe : va_A (wM ad cA σ) s.heap.size = A at hD ⊢
  have hA : ∀ q : Nat, s.heap.size ≤ q → A q := fun q h => by rw [← hAe]; exact Or.inr h
  clear hAe hD0
  have hS : va_S A s.heap s.heap [] := va_S.rf
  have hl := lv_entry ([.ref (ad 0), .int p1]) (n := 2) (Nat.le_of_ble_eq_true rfl)
  rw [lg_entry_eq]
  generalize (lg_sl ([.ref (ad 0), .int p1]) ++ List.replicate (2 - (lg_sl ([.ref (ad 0), .int p1])).length) Slot.unset).toArray = ls at hl ⊢
  have hl : lv_has ls 2 [(0, .ref (ad 0)), (1, .int p1)] := hl
  have hS9 : CallFix p m c cX5_promised 2 s _ wsX5_promised RX5 := ⟨hx, hb, hml, hown, hts⟩
  have hw0 := hts (.fieldLink RX5 16 "TrunkYardsModel" "booking" "[I") (List.mem_cons_of_mem _ (List.mem_of_getElem? (i := 0) rfl))
  have hiX5 : ∀ w ∈ wsX50, w ∈ wsX5_promised := fun w h => List.mem_cons_of_mem _ (List.mem_append_right _ h)
  unfold tyf_M_promised at hF
  refine lv_aload_n hx hb dX5_promised_0 rfl (lv_at hl 0 rfl) ?_
  refine lv_iload_n hx hb dX5_promised_1 rfl (lv_at hl 1 rfl) ?_
  obtain ⟨r2, σ1, er2, hF⟩ := bN_some hF
  refine gc_Vi (As := [.int p1]) hS9 (tyc_M_asksWagon l D ad cA _ σ p1 r2 σ1 er2) (cwV 1 hts gX5_promised_X5_asksWagon rfl rfl rfl hd_X5_asksWagon ⟨by decide, by decide⟩) hK hP hD hS hA hNN (ci := 5) (q0 := 0) (N := 30) rfl (wM_0 ad cA σ) rfl hl.1 rfl (Nat.le_of_ble_eq_true rfl) dX5_promised_2 (fun H locs hP hD hS => ?_)
  refine lv_if_ne (tgt := 12) hx hb dX5_promised_5 (by decide) (fun c_3 => ?_) (fun c_3 => ?_)
  · have hF := iteF hF c_3
    refine lv_aload_n hx hb dX5_promised_12 rfl (lv_at hl 0 rfl) ?_
    refine lv_iload_n hx hb dX5_promised_13 rfl (lv_at hl 1 rfl) ?_
    obtain ⟨r4, er4, hF⟩ := bR_some hF
    refine gc_Vi (As := [.int p1]) hS9 (tyc_M_isPromised l D ad cA _ σ1 p1 r4 er4) (cwV 1 hts gX5_promised_X5_isPromised rfl rfl rfl hd_X5_isPromised ⟨by decide, by decide⟩) hK hP hD hS hA hNN (ci := 5) (q0 := 0) (N := 30) rfl (wM_0 ad cA σ1) rfl hl.1 rfl (Nat.le_of_ble_eq_true rfl) dX5_promised_14 (fun H locs hP hD hS => ?_)
    refine lv_if_eq (tgt := 29) hx hb dX5_promised_17 (by decide) (fun c_5 => ?_) (fun c_5 => ?_)
    · have hF := iteT hF c_5
      refine lv_iconst (v := (-1)) hx hb dX5_promised_29 (by decide) ?_
      exact g_iretN hx hb hr rfl hlocks hP hK hD hS dX5_promised_30 hF
    · have hF := iteF hF c_5
      refine lv_aload_n hx hb dX5_promised_20 rfl (lv_at hl 0 rfl) ?_
      refine va_get (D := D) (ci := 5) (v := .ref (ad 3)) (C := RX5) (T := TX5) (N := 30) hx hb hts hiX5 hown hK hP 0 (wM_0 ad cA σ1) rfl 5 (by decide) hw0 (fun _ h9 => h9) rfl dX5_promised_21 ?_
      refine lv_iload_n hx hb dX5_promised_24 rfl (lv_at hl 1 rfl) ?_
      obtain ⟨hb_6, hF⟩ := chk_some hF
      refine va_iald hx hb hK hP 3 2 (wM_3 ad cA σ1) (tM_3 cA) hb_6 dX5_promised_25 ?_
      refine lv_goto (tgt := 30) hx hb dX5_promised_26 (by decide) ?_
      exact g_iretN hx hb hr rfl hlocks hP hK hD hS dX5_promised_30 hF
  · have hF := iteT hF c_3
    refine lv_iconst (v := 0) hx hb dX5_promised_8 (by decide) ?_
    refine lv_goto (tgt := 30) hx hb dX5_promised_9 (by decide) ?_
    exact g_iretN hx hb hr rfl hlocks hP hK hD hS dX5_promised_30 hF
set_option maxHeartbeats 4000000 in
set_option maxRecDepth 100000 in
theorem tyc_M_callNow (l : Launch) (D : va_G) (ad : Nat → Nat) (cA : Nat → ClassId) (sz : Nat) (σ : tyS) (p1 : Int32) (r : Int32) (hF : tyf_M_callNow σ p1 = some r) : gMi l yX5_callNow wsX5_callNow ({ frames := 0, cells := 0, slots := 0, locals := 0 } : Room) D (wM ad cA) (tM cA) [.ref (ad 0), .int p1] sz σ r σ := by
  refine Met.ofW (cc := cX5_callNow) (maxL := 4) (ret := (some .int)) (by decide) rfl ?_
  intro p e s m args below meth c s₁ B hml hv
  obtain ⟨rfl, hsz, hP, hK, hD0, hNN⟩ := hv
  have hx := B.exec
  have hb := B.bytes
  have hr := B.returns
  have hts := atoms_spec (ws := wsX5_callNow) B.pre
  have hown : s.vm.findClass RX5 = some m.cls := findClass_of_methodNamed B.named
  have hlocks := B.notSynchronized
  subst hsz
  have hD := hD0.self (sz := s.heap.size)
  generalize hAe : va_A (wM ad cA σ) s.heap.size = A at hD ⊢
  have hA : ∀ q : Nat, s.heap.size ≤ q → A q := fun q h => by rw [← hAe]; exact Or.inr h
  clear hAe hD0
  have hS : va_S A s.heap s.heap [] := va_S.rf
  have hl := lv_entry ([.ref (ad 0), .int p1]) (n := 4) (Nat.le_of_ble_eq_true rfl)
  rw [lg_entry_eq]
  generalize (lg_sl ([.ref (ad 0), .int p1]) ++ List.replicate (4 - (lg_sl ([.ref (ad 0), .int p1])).length) Slot.unset).toArray = ls at hl ⊢
  have hl : lv_has ls 4 [(0, .ref (ad 0)), (1, .int p1)] := hl
  have hw0 := hts (.fieldLink RX5 119 "TrunkYardsModel" "calls" "I") (List.mem_cons_of_mem _ (List.mem_of_getElem? (i := 0) rfl))
  have hiX5 : ∀ w ∈ wsX50, w ∈ wsX5_callNow := fun w h => List.mem_cons_of_mem _ (List.mem_append_right _ h)
  have hw2 := hts (.fieldLink RX5 40 "TrunkYardsModel" "goesOn" "[Z") (List.mem_cons_of_mem _ (List.mem_of_getElem? (i := 1) rfl))
  have hw3 := hts (.fieldLink RX5 34 "TrunkYardsModel" "customer" "[I") (List.mem_cons_of_mem _ (List.mem_of_getElem? (i := 2) rfl))
  unfold tyf_M_callNow at hF
  refine lv_iconst (v := (-1)) hx hb dX5_callNow_0 (by decide) ?_
  refine lv_istore_n (lv' := [(2, .int (-1)), (0, .ref (ad 0)), (1, .int p1)]) hx hb dX5_callNow_1 rfl hl (by decide) rfl (fun ls hl => ?_)
  refine lv_iconst (v := 0) hx hb dX5_callNow_2 (by decide) ?_
  refine lv_istore_n (lv' := [(3, .int 0), (2, .int (-1)), (0, .ref (ad 0)), (1, .int p1)]) hx hb dX5_callNow_3 rfl hl (by decide) rfl (fun ls hl => ?_)
  have lp4 : ∀ (k : Int32 → Int32 → Int32 → Option Int32), (∀ (x1 : Int32) (x2 : Int32) (x3 : Int32) , k x1 x2 x3 = some r → ∀ (H : Heap) (locs : List Loc) (ls : Array Slot), va_P D vwCl (wM ad cA σ) H → va_D A (wM ad cA σ) → va_S A s.heap H locs → lv_has ls 4 [(0, .ref (ad 0)), (1, .int x1), (2, .int x2), (3, .int x3)] → W p l e (headSpec wsX5_callNow ({ frames := 0, cells := 0, slots := 0, locals := 0 } : Room)).room s m #[.ref (ad 0), .int p1] below meth c H locs 0 0 (MQ below (gQi D (wM ad cA) (tM cA) A r σ) #[.ref (ad 0), .int p1] s 0 0 A) (F0 m 43 ls [])) → ∀ (n : Nat), ∀ (x1 : Int32) (x2 : Int32) (x3 : Int32) , tyl_M_callNow_4 σ k n x1 x2 x3 = some r → ∀ (H : Heap) (locs : List Loc) (ls : Array Slot), va_P D vwCl (wM ad cA σ) H → va_D A (wM ad cA σ) → va_S A s.heap H locs → lv_has ls 4 [(0, .ref (ad 0)), (1, .int x1), (2, .int x2), (3, .int x3)] → W p l e (headSpec wsX5_callNow ({ frames := 0, cells := 0, slots := 0, locals := 0 } : Room)).room s m #[.ref (ad 0), .int p1] below meth c H locs 0 0 (MQ below (gQi D (wM ad cA) (tM cA) A r σ) #[.ref (ad 0), .int p1] s 0 0 A) (F0 m 4 ls []) := by
    intro k hk n
    induction n with
    | zero =>
      intro x1 x2 x3 hF
      exact absurd hF (fun h => nomatch h)
    | succ n ih =>
      intro x1 x2 x3 hF H locs ls hP hD hS hl
      have hF : tyb_M_callNow_4 σ k (tyl_M_callNow_4 σ k n) x1 x2 x3 = some r := hF
      unfold tyb_M_callNow_4 at hF
      refine lv_iload_n hx hb dX5_callNow_4 rfl (lv_at hl 3 rfl) ?_
      refine lv_aload_n hx hb dX5_callNow_5 rfl (lv_at hl 0 rfl) ?_
      refine va_get (D := D) (ci := 5) (v := .int (σ.2 3)) (C := RX5) (T := TX5) (N := 30) hx hb hts hiX5 hown hK hP 0 (wM_0 ad cA σ) rfl 11 (by decide) hw0 (fun _ h9 => h9) rfl dX5_callNow_6 ?_
      refine lv_icmp_ge (tgt := 43) hx hb dX5_callNow_9 (by decide) (fun c_1 => ?_) (fun c_1 => ?_)
      · have hF := iteT hF c_1
        exact hk  x1 x2 x3 hF _ _ _ hP hD hS (lv_sub hl [0, 1, 2, 3] rfl)
      · have hF := iteF hF c_1
        refine lv_aload_n hx hb dX5_callNow_12 rfl (lv_at hl 0 rfl) ?_
        refine va_get (D := D) (ci := 5) (v := .ref (ad 11)) (C := RX5) (T := TX5) (N := 30) hx hb hts hiX5 hown hK hP 0 (wM_0 ad cA σ) rfl 15 (by decide) hw2 (fun _ h9 => h9) rfl dX5_callNow_13 ?_
        refine lv_iload_n hx hb dX5_callNow_16 rfl (lv_at hl 3 rfl) ?_
        obtain ⟨hb_2, hF⟩ := chk_some hF
        refine va_zald hx hb hK hP 11 10 (wM_11 ad cA σ) (tM_11 cA) hb_2 dX5_callNow_17 ?_
        refine lv_if_eq (tgt := 35) hx hb dX5_callNow_18 (by decide) (fun c_3 => ?_) (fun c_3 => ?_)
        · have hF := iteT hF c_3
          refine lv_iload_n hx hb dX5_callNow_35 rfl (lv_at hl 2 rfl) ?_
          refine lv_istore_n (lv' := [(2, .int x2), (0, .ref (ad 0)), (1, .int x1), (3, .int x3)]) hx hb dX5_callNow_36 rfl hl (by decide) rfl (fun ls hl => ?_)
          refine lv_iinc (v := (x3 + 1)) (lv' := [(3, .int (x3 + 1)), (2, .int x2), (0, .ref (ad 0)), (1, .int x1)]) hx hb dX5_callNow_37 hl (k := 3) rfl rfl (by decide) rfl (fun ls hl => ?_)
          refine lv_goto (tgt := 4) hx hb dX5_callNow_40 (by decide) ?_
          exact ih  x1 x2 (x3 + 1) hF _ _ _ hP hD hS (lv_sub hl [2, 3, 1, 0] rfl)
        · have hF := iteF hF c_3
          refine lv_aload_n hx hb dX5_callNow_21 rfl (lv_at hl 0 rfl) ?_
          refine va_get (D := D) (ci := 5) (v := .ref (ad 9)) (C := RX5) (T := TX5) (N := 30) hx hb hts hiX5 hown hK hP 0 (wM_0 ad cA σ) rfl 13 (by decide) hw3 (fun _ h9 => h9) rfl dX5_callNow_22 ?_
          refine lv_iload_n hx hb dX5_callNow_25 rfl (lv_at hl 3 rfl) ?_
          obtain ⟨hb_4, hF⟩ := chk_some hF
          refine va_iald hx hb hK hP 9 8 (wM_9 ad cA σ) (tM_9 cA) hb_4 dX5_callNow_26 ?_
          refine lv_iload_n hx hb dX5_callNow_27 rfl (lv_at hl 1 rfl) ?_
          refine lv_icmp_ne (tgt := 35) hx hb dX5_callNow_28 (by decide) (fun c_5 => ?_) (fun c_5 => ?_)
          · have hF := iteF hF c_5
            refine lv_iload_n hx hb dX5_callNow_35 rfl (lv_at hl 2 rfl) ?_
            refine lv_istore_n (lv' := [(2, .int x2), (0, .ref (ad 0)), (1, .int x1), (3, .int x3)]) hx hb dX5_callNow_36 rfl hl (by decide) rfl (fun ls hl => ?_)
            refine lv_iinc (v := (x3 + 1)) (lv' := [(3, .int (x3 + 1)), (2, .int x2), (0, .ref (ad 0)), (1, .int x1)]) hx hb dX5_callNow_37 hl (k := 3) rfl rfl (by decide) rfl (fun ls hl => ?_)
            refine lv_goto (tgt := 4) hx hb dX5_callNow_40 (by decide) ?_
            exact ih  x1 x2 (x3 + 1) hF _ _ _ hP hD hS (lv_sub hl [2, 3, 1, 0] rfl)
          · have hF := iteT hF c_5
            refine lv_iload_n hx hb dX5_callNow_31 rfl (lv_at hl 3 rfl) ?_
            refine lv_goto (tgt := 36) hx hb dX5_callNow_32 (by decide) ?_
            refine lv_istore_n (lv' := [(2, .int x3), (0, .ref (ad 0)), (1, .int x1), (3, .int x3)]) hx hb dX5_callNow_36 rfl hl (by decide) rfl (fun ls hl => ?_)
            refine lv_iinc (v := (x3 + 1)) (lv' := [(3, .int (x3 + 1)), (2, .int x3), (0, .ref (ad 0)), (1, .int x1)]) hx hb dX5_callNow_37 hl (k := 3) rfl rfl (by decide) rfl (fun ls hl => ?_)
            refine lv_goto (tgt := 4) hx hb dX5_callNow_40 (by decide) ?_
            exact ih  x1 x3 (x3 + 1) hF _ _ _ hP hD hS (lv_sub hl [2, 3, 1, 0] rfl)
  refine lp4 _ ?_ 64  p1 (-1) 0 hF _ _ _ hP hD hS (lv_sub hl [2, 3, 1, 0] rfl)
  intro x1 x2 x3 hF H locs ls hP hD hS hl
  refine lv_iload_n hx hb dX5_callNow_43 rfl (lv_at hl 2 rfl) ?_
  exact g_iretR hx hb hr rfl hlocks hP hK hD hS dX5_callNow_44 hF
set_option maxHeartbeats 4000000 in
set_option maxRecDepth 100000 in
theorem tyc_M_callsTo (l : Launch) (D : va_G) (ad : Nat → Nat) (cA : Nat → ClassId) (sz : Nat) (σ : tyS) (p1 : Int32) (r : Int32) (hF : tyf_M_callsTo σ p1 = some r) : gMi l yX5_callsTo wsX5_callsTo ({ frames := 0, cells := 0, slots := 0, locals := 0 } : Room) D (wM ad cA) (tM cA) [.ref (ad 0), .int p1] sz σ r σ := by
  refine Met.ofW (cc := cX5_callsTo) (maxL := 4) (ret := (some .int)) (by decide) rfl ?_
  intro p e s m args below meth c s₁ B hml hv
  obtain ⟨rfl, hsz, hP, hK, hD0, hNN⟩ := hv
  have hx := B.exec
  have hb := B.bytes
  have hr := B.returns
  have hts := atoms_spec (ws := wsX5_callsTo) B.pre
  have hown : s.vm.findClass RX5 = some m.cls := findClass_of_methodNamed B.named
  have hlocks := B.notSynchronized
  subst hsz
  have hD := hD0.self (sz := s.heap.size)
  generalize hAe : va_A (wM ad cA σ) s.heap.size = A at hD ⊢
  have hA : ∀ q : Nat, s.heap.size ≤ q → A q := fun q h => by rw [← hAe]; exact Or.inr h
  clear hAe hD0
  have hS : va_S A s.heap s.heap [] := va_S.rf
  have hl := lv_entry ([.ref (ad 0), .int p1]) (n := 4) (Nat.le_of_ble_eq_true rfl)
  rw [lg_entry_eq]
  generalize (lg_sl ([.ref (ad 0), .int p1]) ++ List.replicate (4 - (lg_sl ([.ref (ad 0), .int p1])).length) Slot.unset).toArray = ls at hl ⊢
  have hl : lv_has ls 4 [(0, .ref (ad 0)), (1, .int p1)] := hl
  have hw0 := hts (.fieldLink RX5 119 "TrunkYardsModel" "calls" "I") (List.mem_cons_of_mem _ (List.mem_of_getElem? (i := 0) rfl))
  have hiX5 : ∀ w ∈ wsX50, w ∈ wsX5_callsTo := fun w h => List.mem_cons_of_mem _ (List.mem_append_right _ h)
  have hw2 := hts (.fieldLink RX5 40 "TrunkYardsModel" "goesOn" "[Z") (List.mem_cons_of_mem _ (List.mem_of_getElem? (i := 1) rfl))
  have hw3 := hts (.fieldLink RX5 37 "TrunkYardsModel" "yard" "[I") (List.mem_cons_of_mem _ (List.mem_of_getElem? (i := 2) rfl))
  unfold tyf_M_callsTo at hF
  refine lv_iconst (v := 0) hx hb dX5_callsTo_0 (by decide) ?_
  refine lv_istore_n (lv' := [(2, .int 0), (0, .ref (ad 0)), (1, .int p1)]) hx hb dX5_callsTo_1 rfl hl (by decide) rfl (fun ls hl => ?_)
  refine lv_iconst (v := 0) hx hb dX5_callsTo_2 (by decide) ?_
  refine lv_istore_n (lv' := [(3, .int 0), (2, .int 0), (0, .ref (ad 0)), (1, .int p1)]) hx hb dX5_callsTo_3 rfl hl (by decide) rfl (fun ls hl => ?_)
  have lp4 : ∀ (k : Int32 → Int32 → Int32 → Option Int32), (∀ (x1 : Int32) (x2 : Int32) (x3 : Int32) , k x1 x2 x3 = some r → ∀ (H : Heap) (locs : List Loc) (ls : Array Slot), va_P D vwCl (wM ad cA σ) H → va_D A (wM ad cA σ) → va_S A s.heap H locs → lv_has ls 4 [(0, .ref (ad 0)), (1, .int x1), (2, .int x2), (3, .int x3)] → W p l e (headSpec wsX5_callsTo ({ frames := 0, cells := 0, slots := 0, locals := 0 } : Room)).room s m #[.ref (ad 0), .int p1] below meth c H locs 0 0 (MQ below (gQi D (wM ad cA) (tM cA) A r σ) #[.ref (ad 0), .int p1] s 0 0 A) (F0 m 45 ls [])) → ∀ (n : Nat), ∀ (x1 : Int32) (x2 : Int32) (x3 : Int32) , tyl_M_callsTo_4 σ k n x1 x2 x3 = some r → ∀ (H : Heap) (locs : List Loc) (ls : Array Slot), va_P D vwCl (wM ad cA σ) H → va_D A (wM ad cA σ) → va_S A s.heap H locs → lv_has ls 4 [(0, .ref (ad 0)), (1, .int x1), (2, .int x2), (3, .int x3)] → W p l e (headSpec wsX5_callsTo ({ frames := 0, cells := 0, slots := 0, locals := 0 } : Room)).room s m #[.ref (ad 0), .int p1] below meth c H locs 0 0 (MQ below (gQi D (wM ad cA) (tM cA) A r σ) #[.ref (ad 0), .int p1] s 0 0 A) (F0 m 4 ls []) := by
    intro k hk n
    induction n with
    | zero =>
      intro x1 x2 x3 hF
      exact absurd hF (fun h => nomatch h)
    | succ n ih =>
      intro x1 x2 x3 hF H locs ls hP hD hS hl
      have hF : tyb_M_callsTo_4 σ k (tyl_M_callsTo_4 σ k n) x1 x2 x3 = some r := hF
      unfold tyb_M_callsTo_4 at hF
      refine lv_iload_n hx hb dX5_callsTo_4 rfl (lv_at hl 3 rfl) ?_
      refine lv_aload_n hx hb dX5_callsTo_5 rfl (lv_at hl 0 rfl) ?_
      refine va_get (D := D) (ci := 5) (v := .int (σ.2 3)) (C := RX5) (T := TX5) (N := 30) hx hb hts hiX5 hown hK hP 0 (wM_0 ad cA σ) rfl 11 (by decide) hw0 (fun _ h9 => h9) rfl dX5_callsTo_6 ?_
      refine lv_icmp_ge (tgt := 45) hx hb dX5_callsTo_9 (by decide) (fun c_1 => ?_) (fun c_1 => ?_)
      · have hF := iteT hF c_1
        exact hk  x1 x2 x3 hF _ _ _ hP hD hS (lv_sub hl [0, 1, 2, 3] rfl)
      · have hF := iteF hF c_1
        refine lv_iload_n hx hb dX5_callsTo_12 rfl (lv_at hl 2 rfl) ?_
        refine lv_aload_n hx hb dX5_callsTo_13 rfl (lv_at hl 0 rfl) ?_
        refine va_get (D := D) (ci := 5) (v := .ref (ad 11)) (C := RX5) (T := TX5) (N := 30) hx hb hts hiX5 hown hK hP 0 (wM_0 ad cA σ) rfl 15 (by decide) hw2 (fun _ h9 => h9) rfl dX5_callsTo_14 ?_
        refine lv_iload_n hx hb dX5_callsTo_17 rfl (lv_at hl 3 rfl) ?_
        obtain ⟨hb_2, hF⟩ := chk_some hF
        refine va_zald hx hb hK hP 11 10 (wM_11 ad cA σ) (tM_11 cA) hb_2 dX5_callsTo_18 ?_
        refine lv_if_eq (tgt := 36) hx hb dX5_callsTo_19 (by decide) (fun c_3 => ?_) (fun c_3 => ?_)
        · have hF := iteT hF c_3
          refine lv_iconst (v := 0) hx hb dX5_callsTo_36 (by decide) ?_
          refine lv_iadd hx hb dX5_callsTo_37 ?_
          refine lv_istore_n (lv' := [(2, .int (x2 + 0)), (0, .ref (ad 0)), (1, .int x1), (3, .int x3)]) hx hb dX5_callsTo_38 rfl hl (by decide) rfl (fun ls hl => ?_)
          refine lv_iinc (v := (x3 + 1)) (lv' := [(3, .int (x3 + 1)), (2, .int (x2 + 0)), (0, .ref (ad 0)), (1, .int x1)]) hx hb dX5_callsTo_39 hl (k := 3) rfl rfl (by decide) rfl (fun ls hl => ?_)
          refine lv_goto (tgt := 4) hx hb dX5_callsTo_42 (by decide) ?_
          exact ih  x1 (x2 + 0) (x3 + 1) hF _ _ _ hP hD hS (lv_sub hl [2, 3, 1, 0] rfl)
        · have hF := iteF hF c_3
          refine lv_aload_n hx hb dX5_callsTo_22 rfl (lv_at hl 0 rfl) ?_
          refine va_get (D := D) (ci := 5) (v := .ref (ad 10)) (C := RX5) (T := TX5) (N := 30) hx hb hts hiX5 hown hK hP 0 (wM_0 ad cA σ) rfl 14 (by decide) hw3 (fun _ h9 => h9) rfl dX5_callsTo_23 ?_
          refine lv_iload_n hx hb dX5_callsTo_26 rfl (lv_at hl 3 rfl) ?_
          obtain ⟨hb_4, hF⟩ := chk_some hF
          refine va_iald hx hb hK hP 10 9 (wM_10 ad cA σ) (tM_10 cA) hb_4 dX5_callsTo_27 ?_
          refine lv_iload_n hx hb dX5_callsTo_28 rfl (lv_at hl 1 rfl) ?_
          refine lv_icmp_ne (tgt := 36) hx hb dX5_callsTo_29 (by decide) (fun c_5 => ?_) (fun c_5 => ?_)
          · have hF := iteF hF c_5
            refine lv_iconst (v := 0) hx hb dX5_callsTo_36 (by decide) ?_
            refine lv_iadd hx hb dX5_callsTo_37 ?_
            refine lv_istore_n (lv' := [(2, .int (x2 + 0)), (0, .ref (ad 0)), (1, .int x1), (3, .int x3)]) hx hb dX5_callsTo_38 rfl hl (by decide) rfl (fun ls hl => ?_)
            refine lv_iinc (v := (x3 + 1)) (lv' := [(3, .int (x3 + 1)), (2, .int (x2 + 0)), (0, .ref (ad 0)), (1, .int x1)]) hx hb dX5_callsTo_39 hl (k := 3) rfl rfl (by decide) rfl (fun ls hl => ?_)
            refine lv_goto (tgt := 4) hx hb dX5_callsTo_42 (by decide) ?_
            exact ih  x1 (x2 + 0) (x3 + 1) hF _ _ _ hP hD hS (lv_sub hl [2, 3, 1, 0] rfl)
          · have hF := iteT hF c_5
            refine lv_iconst (v := 1) hx hb dX5_callsTo_32 (by decide) ?_
            refine lv_goto (tgt := 37) hx hb dX5_callsTo_33 (by decide) ?_
            refine lv_iadd hx hb dX5_callsTo_37 ?_
            refine lv_istore_n (lv' := [(2, .int (x2 + 1)), (0, .ref (ad 0)), (1, .int x1), (3, .int x3)]) hx hb dX5_callsTo_38 rfl hl (by decide) rfl (fun ls hl => ?_)
            refine lv_iinc (v := (x3 + 1)) (lv' := [(3, .int (x3 + 1)), (2, .int (x2 + 1)), (0, .ref (ad 0)), (1, .int x1)]) hx hb dX5_callsTo_39 hl (k := 3) rfl rfl (by decide) rfl (fun ls hl => ?_)
            refine lv_goto (tgt := 4) hx hb dX5_callsTo_42 (by decide) ?_
            exact ih  x1 (x2 + 1) (x3 + 1) hF _ _ _ hP hD hS (lv_sub hl [2, 3, 1, 0] rfl)
  refine lp4 _ ?_ 64  p1 0 0 hF _ _ _ hP hD hS (lv_sub hl [2, 3, 1, 0] rfl)
  intro x1 x2 x3 hF H locs ls hP hD hS hl
  refine lv_iload_n hx hb dX5_callsTo_45 rfl (lv_at hl 2 rfl) ?_
  exact g_iretR hx hb hr rfl hlocks hP hK hD hS dX5_callsTo_46 hF
set_option maxHeartbeats 4000000 in
set_option maxRecDepth 100000 in
theorem tyc_M_between (l : Launch) (D : va_G) (ad : Nat → Nat) (cA : Nat → ClassId) (sz : Nat) (σ : tyS) (p0 : Int32) (p1 : Int32) (r : Int32) (hF : tyf_M_between σ p0 p1 = some r) : gMi l yX5_between wsX5_between ({ frames := 0, cells := 0, slots := 0, locals := 0 } : Room) D (wM ad cA) (tM cA) [.int p0, .int p1] sz σ r σ := by
  refine Met.ofW (cc := cX5_between) (maxL := 2) (ret := (some .int)) (by decide) rfl ?_
  intro p e s m args below meth c s₁ B hml hv
  obtain ⟨rfl, hsz, hP, hK, hD0, hNN⟩ := hv
  have hx := B.exec
  have hb := B.bytes
  have hr := B.returns
  have hts := atoms_spec (ws := wsX5_between) B.pre
  have hown : s.vm.findClass RX5 = some m.cls := findClass_of_methodNamed B.named
  have hlocks := B.notSynchronized
  subst hsz
  have hD := hD0.self (sz := s.heap.size)
  generalize hAe : va_A (wM ad cA σ) s.heap.size = A at hD ⊢
  have hA : ∀ q : Nat, s.heap.size ≤ q → A q := fun q h => by rw [← hAe]; exact Or.inr h
  clear hAe hD0
  have hS : va_S A s.heap s.heap [] := va_S.rf
  have hl := lv_entry ([.int p0, .int p1]) (n := 2) (Nat.le_of_ble_eq_true rfl)
  rw [lg_entry_eq]
  generalize (lg_sl ([.int p0, .int p1]) ++ List.replicate (2 - (lg_sl ([.int p0, .int p1])).length) Slot.unset).toArray = ls at hl ⊢
  have hl : lv_has ls 2 [(0, .int p0), (1, .int p1)] := hl
  unfold tyf_M_between at hF
  refine lv_iconst (v := 2) hx hb dX5_between_0 (by decide) ?_
  refine lv_iload_n hx hb dX5_between_1 rfl (lv_at hl 0 rfl) ?_
  refine lv_iload_n hx hb dX5_between_2 rfl (lv_at hl 1 rfl) ?_
  refine lv_iadd hx hb dX5_between_3 ?_
  refine lv_iconst (v := 1) hx hb dX5_between_4 (by decide) ?_
  refine lv_isub hx hb dX5_between_5 ?_
  refine lv_imul hx hb dX5_between_6 ?_
  exact g_iretR hx hb hr rfl hlocks hP hK hD hS dX5_between_7 hF
set_option maxHeartbeats 4000000 in
set_option maxRecDepth 100000 in
theorem tyc_M_freeBetween (l : Launch) (D : va_G) (ad : Nat → Nat) (cA : Nat → ClassId) (sz : Nat) (σ : tyS) (p1 : Int32) (p2 : Int32) (r : Int32) (hF : tyf_M_freeBetween σ p1 p2 = some r) : gMi l yX5_freeBetween wsX5_freeBetween ({ frames := 1, cells := 0, slots := 0, locals := 21 } : Room) D (wM ad cA) (tM cA) [.ref (ad 0), .int p1, .int p2] sz σ r σ := by
  refine Met.ofW (cc := cX5_freeBetween) (maxL := 4) (ret := (some .int)) (by decide) rfl ?_
  intro p e s m args below meth c s₁ B hml hv
  obtain ⟨rfl, hsz, hP, hK, hD0, hNN⟩ := hv
  have hx := B.exec
  have hb := B.bytes
  have hr := B.returns
  have hts := atoms_spec (ws := wsX5_freeBetween) B.pre
  have hown : s.vm.findClass RX5 = some m.cls := findClass_of_methodNamed B.named
  have hlocks := B.notSynchronized
  subst hsz
  have hD := hD0.self (sz := s.heap.size)
  generalize hAe : va_A (wM ad cA σ) s.heap.size = A at hD ⊢
  have hA : ∀ q : Nat, s.heap.size ≤ q → A q := fun q h => by rw [← hAe]; exact Or.inr h
  clear hAe hD0
  have hS : va_S A s.heap s.heap [] := va_S.rf
  have hl := lv_entry ([.ref (ad 0), .int p1, .int p2]) (n := 4) (Nat.le_of_ble_eq_true rfl)
  rw [lg_entry_eq]
  generalize (lg_sl ([.ref (ad 0), .int p1, .int p2]) ++ List.replicate (4 - (lg_sl ([.ref (ad 0), .int p1, .int p2])).length) Slot.unset).toArray = ls at hl ⊢
  have hl : lv_has ls 4 [(0, .ref (ad 0)), (1, .int p1), (2, .int p2)] := hl
  have hS9 : CallFix p m c cX5_freeBetween 4 s _ wsX5_freeBetween RX5 := ⟨hx, hb, hml, hown, hts⟩
  have hw0 := hts (.fieldLink RX5 28 "TrunkYardsModel" "trunk" "[I") (List.mem_cons_of_mem _ (List.mem_of_getElem? (i := 0) rfl))
  have hiX5 : ∀ w ∈ wsX50, w ∈ wsX5_freeBetween := fun w h => List.mem_cons_of_mem _ (List.mem_append_right _ h)
  unfold tyf_M_freeBetween at hF
  refine lv_iload_n hx hb dX5_freeBetween_0 rfl (lv_at hl 1 rfl) ?_
  refine lv_iload_n hx hb dX5_freeBetween_1 rfl (lv_at hl 2 rfl) ?_
  obtain ⟨r1, er1, hF⟩ := bR_some hF
  refine gc_Si (As := [.int p1, .int p2]) hS9 (tyc_M_between l D ad cA _ σ p1 p2 r1 er1) (va_cwS 2 hts gX5_freeBetween_X5_between rfl rfl rfl hd_X5_between ⟨by decide, by decide⟩) hK hP hD hS hA hNN rfl hl.1 rfl (Nat.le_of_ble_eq_true rfl) dX5_freeBetween_2 (fun H locs hP hD hS => ?_)
  refine lv_istore_n (lv' := [(3, .int r1), (0, .ref (ad 0)), (1, .int p1), (2, .int p2)]) hx hb dX5_freeBetween_5 rfl hl (by decide) rfl (fun ls hl => ?_)
  refine lv_aload_n hx hb dX5_freeBetween_6 rfl (lv_at hl 1 rfl) ?_
  refine va_get (D := D) (ci := 5) (v := .ref (ad 7)) (C := RX5) (T := TX5) (N := 30) hx hb hts hiX5 hown hK hP 0 (wM_0 ad cA σ) rfl 9 (by decide) hw0 (fun _ h9 => h9) rfl dX5_freeBetween_7 ?_
  refine lv_iload_n hx hb dX5_freeBetween_10 rfl (lv_at hl 0 rfl) ?_
  obtain ⟨hb_2, hF⟩ := chk_some hF
  refine va_iald hx hb hK hP 7 6 (wM_7 ad cA σ) (tM_7 cA) hb_2 dX5_freeBetween_11 ?_
  refine lv_iconst (v := (-1)) hx hb dX5_freeBetween_12 (by decide) ?_
  refine lv_icmp_ne (tgt := 20) hx hb dX5_freeBetween_13 (by decide) (fun c_3 => ?_) (fun c_3 => ?_)
  · have hF := iteF hF c_3
    refine lv_aload_n hx hb dX5_freeBetween_20 rfl (lv_at hl 1 rfl) ?_
    refine va_get (D := D) (ci := 5) (v := .ref (ad 7)) (C := RX5) (T := TX5) (N := 30) hx hb hts hiX5 hown hK hP 0 (wM_0 ad cA σ) rfl 9 (by decide) hw0 (fun _ h9 => h9) rfl dX5_freeBetween_21 ?_
    refine lv_iload_n hx hb dX5_freeBetween_24 rfl (lv_at hl 0 rfl) ?_
    refine lv_iconst (v := 1) hx hb dX5_freeBetween_25 (by decide) ?_
    refine lv_iadd hx hb dX5_freeBetween_26 ?_
    obtain ⟨hb_4, hF⟩ := chk_some hF
    refine va_iald hx hb hK hP 7 6 (wM_7 ad cA σ) (tM_7 cA) hb_4 dX5_freeBetween_27 ?_
    refine lv_iconst (v := (-1)) hx hb dX5_freeBetween_28 (by decide) ?_
    refine lv_icmp_ne (tgt := 38) hx hb dX5_freeBetween_29 (by decide) (fun c_5 => ?_) (fun c_5 => ?_)
    · have hF := iteF hF c_5
      refine lv_iconst (v := (-1)) hx hb dX5_freeBetween_38 (by decide) ?_
      exact g_iretR hx hb hr rfl hlocks hP hK hD hS dX5_freeBetween_39 hF
    · have hF := iteT hF c_5
      refine lv_iload_n hx hb dX5_freeBetween_32 rfl (lv_at hl 0 rfl) ?_
      refine lv_iconst (v := 1) hx hb dX5_freeBetween_33 (by decide) ?_
      refine lv_iadd hx hb dX5_freeBetween_34 ?_
      refine lv_goto (tgt := 39) hx hb dX5_freeBetween_35 (by decide) ?_
      exact g_iretR hx hb hr rfl hlocks hP hK hD hS dX5_freeBetween_39 hF
  · have hF := iteT hF c_3
    refine lv_iload_n hx hb dX5_freeBetween_16 rfl (lv_at hl 0 rfl) ?_
    refine lv_goto (tgt := 39) hx hb dX5_freeBetween_17 (by decide) ?_
    exact g_iretR hx hb hr rfl hlocks hP hK hD hS dX5_freeBetween_39 hF
set_option maxHeartbeats 4000000 in
set_option maxRecDepth 100000 in
theorem tyc_M_takesWay (l : Launch) (D : va_G) (ad : Nat → Nat) (cA : Nat → ClassId) (sz : Nat) (σ : tyS) (p1 : Int32) (p2 : Int32) (r : Int32) (τ : tyS) (hF : tyf_M_takesWay σ p1 p2 = some (r, τ)) : gMi l yX5_takesWay wsX5_takesWay ({ frames := 2, cells := 0, slots := 0, locals := 44 } : Room) D (wM ad cA) (tM cA) [.ref (ad 0), .int p1, .int p2] sz σ r τ := by
  refine Met.ofW (cc := cX5_takesWay) (maxL := 7) (ret := (some .boolean)) (by decide) rfl ?_
  intro p e s m args below meth c s₁ B hml hv
  obtain ⟨rfl, hsz, hP, hK, hD0, hNN⟩ := hv
  have hx := B.exec
  have hb := B.bytes
  have hr := B.returns
  have hts := atoms_spec (ws := wsX5_takesWay) B.pre
  have hown : s.vm.findClass RX5 = some m.cls := findClass_of_methodNamed B.named
  have hlocks := B.notSynchronized
  subst hsz
  have hD := hD0.self (sz := s.heap.size)
  generalize hAe : va_A (wM ad cA σ) s.heap.size = A at hD ⊢
  have hA : ∀ q : Nat, s.heap.size ≤ q → A q := fun q h => by rw [← hAe]; exact Or.inr h
  clear hAe hD0
  have hS : va_S A s.heap s.heap [] := va_S.rf
  have hl := lv_entry ([.ref (ad 0), .int p1, .int p2]) (n := 7) (Nat.le_of_ble_eq_true rfl)
  rw [lg_entry_eq]
  generalize (lg_sl ([.ref (ad 0), .int p1, .int p2]) ++ List.replicate (7 - (lg_sl ([.ref (ad 0), .int p1, .int p2])).length) Slot.unset).toArray = ls at hl ⊢
  have hl : lv_has ls 7 [(0, .ref (ad 0)), (1, .int p1), (2, .int p2)] := hl
  have hS9 : CallFix p m c cX5_takesWay 7 s _ wsX5_takesWay RX5 := ⟨hx, hb, hml, hown, hts⟩
  have hw0 := hts (.fieldLink RX5 28 "TrunkYardsModel" "trunk" "[I") (List.mem_cons_of_mem _ (List.mem_of_getElem? (i := 0) rfl))
  have hiX5 : ∀ w ∈ wsX50, w ∈ wsX5_takesWay := fun w h => List.mem_cons_of_mem _ (List.mem_append_right _ h)
  have hw2 := hts (.fieldLink RX5 119 "TrunkYardsModel" "calls" "I") (List.mem_cons_of_mem _ (List.mem_of_getElem? (i := 1) rfl))
  unfold tyf_M_takesWay at hF
  refine lv_iload_n hx hb dX5_takesWay_0 rfl (lv_at hl 1 rfl) ?_
  refine lv_iload_n hx hb dX5_takesWay_1 rfl (lv_at hl 2 rfl) ?_
  refine lv_icmp_ne (tgt := 7) hx hb dX5_takesWay_2 (by decide) (fun c_1 => ?_) (fun c_1 => ?_)
  · have hF := iteF hF c_1
    refine lv_aload_n hx hb dX5_takesWay_7 rfl (lv_at hl 0 rfl) ?_
    refine lv_iload_n hx hb dX5_takesWay_8 rfl (lv_at hl 1 rfl) ?_
    refine lv_iload_n hx hb dX5_takesWay_9 rfl (lv_at hl 2 rfl) ?_
    obtain ⟨r2, er2, hF⟩ := bR_some hF
    refine gc_Vi (As := [.int p1, .int p2]) hS9 (tyc_M_freeBetween l D ad cA _ σ p1 p2 r2 er2) (cwV 2 hts gX5_takesWay_X5_freeBetween rfl rfl rfl hd_X5_freeBetween ⟨by decide, by decide⟩) hK hP hD hS hA hNN (ci := 5) (q0 := 0) (N := 30) rfl (wM_0 ad cA σ) rfl hl.1 rfl (Nat.le_of_ble_eq_true rfl) dX5_takesWay_10 (fun H locs hP hD hS => ?_)
    refine lv_istore_n (lv' := [(3, .int r2), (0, .ref (ad 0)), (1, .int p1), (2, .int p2)]) hx hb dX5_takesWay_13 rfl hl (by decide) rfl (fun ls hl => ?_)
    refine lv_iconst (v := 3) hx hb dX5_takesWay_14 (by decide) ?_
    refine lv_iload_n hx hb dX5_takesWay_15 rfl (lv_at hl 2 rfl) ?_
    refine lv_isub hx hb dX5_takesWay_16 ?_
    refine lv_iload_n hx hb dX5_takesWay_17 rfl (lv_at hl 3 rfl) ?_
    refine lv_isub hx hb dX5_takesWay_18 ?_
    refine lv_istore (lv' := [(4, .int ((3 - p1) - p2)), (3, .int r2), (0, .ref (ad 0)), (1, .int p1), (2, .int p2)]) hx hb dX5_takesWay_19 hl (by decide) rfl (fun ls hl => ?_)
    refine lv_aload_n hx hb dX5_takesWay_21 rfl (lv_at hl 2 rfl) ?_
    refine lv_iload_n hx hb dX5_takesWay_22 rfl (lv_at hl 3 rfl) ?_
    refine lv_iload hx hb dX5_takesWay_23 (lv_at hl 0 rfl) ?_
    obtain ⟨r3, er3, hF⟩ := bR_some hF
    refine gc_Vi (As := [.int p1, .int ((3 - p1) - p2)]) hS9 (tyc_M_freeBetween l D ad cA _ σ p1 ((3 - p1) - p2) r3 er3) (cwV 2 hts gX5_takesWay_X5_freeBetween rfl rfl rfl hd_X5_freeBetween ⟨by decide, by decide⟩) hK hP hD hS hA hNN (ci := 5) (q0 := 0) (N := 30) rfl (wM_0 ad cA σ) rfl hl.1 rfl (Nat.le_of_ble_eq_true rfl) dX5_takesWay_25 (fun H locs hP hD hS => ?_)
    refine lv_istore (lv' := [(5, .int r3), (4, .int ((3 - p1) - p2)), (3, .int r2), (0, .ref (ad 0)), (1, .int p1), (2, .int p2)]) hx hb dX5_takesWay_28 hl (by decide) rfl (fun ls hl => ?_)
    refine lv_aload_n hx hb dX5_takesWay_30 rfl (lv_at hl 3 rfl) ?_
    refine lv_iload hx hb dX5_takesWay_31 (lv_at hl 1 rfl) ?_
    refine lv_iload_n hx hb dX5_takesWay_33 rfl (lv_at hl 5 rfl) ?_
    obtain ⟨r4, er4, hF⟩ := bR_some hF
    refine gc_Vi (As := [.int ((3 - p1) - p2), .int p2]) hS9 (tyc_M_freeBetween l D ad cA _ σ ((3 - p1) - p2) p2 r4 er4) (cwV 2 hts gX5_takesWay_X5_freeBetween rfl rfl rfl hd_X5_freeBetween ⟨by decide, by decide⟩) hK hP hD hS hA hNN (ci := 5) (q0 := 0) (N := 30) rfl (wM_0 ad cA σ) rfl hl.1 rfl (Nat.le_of_ble_eq_true rfl) dX5_takesWay_34 (fun H locs hP hD hS => ?_)
    refine lv_istore (lv' := [(6, .int r4), (5, .int r3), (4, .int ((3 - p1) - p2)), (3, .int r2), (0, .ref (ad 0)), (1, .int p1), (2, .int p2)]) hx hb dX5_takesWay_37 hl (by decide) rfl (fun ls hl => ?_)
    refine lv_iload_n hx hb dX5_takesWay_39 rfl (lv_at hl 3 rfl) ?_
    refine lv_iconst (v := (-1)) hx hb dX5_takesWay_40 (by decide) ?_
    refine lv_icmp_eq (tgt := 56) hx hb dX5_takesWay_41 (by decide) (fun c_5 => ?_) (fun c_5 => ?_)
    · have hF := iteT hF c_5
      refine lv_iload hx hb dX5_takesWay_56 (lv_at hl 1 rfl) ?_
      refine lv_iconst (v := (-1)) hx hb dX5_takesWay_58 (by decide) ?_
      refine lv_icmp_eq (tgt := 68) hx hb dX5_takesWay_59 (by decide) (fun c_6 => ?_) (fun c_6 => ?_)
      · have hF := iteT hF c_6
        refine lv_iconst (v := 0) hx hb dX5_takesWay_68 (by decide) ?_
        exact g_iretN hx hb hr rfl hlocks hP hK hD hS dX5_takesWay_69 hF
      · have hF := iteF hF c_6
        refine lv_iload hx hb dX5_takesWay_62 (lv_at hl 0 rfl) ?_
        refine lv_iconst (v := (-1)) hx hb dX5_takesWay_64 (by decide) ?_
        refine lv_icmp_ne (tgt := 70) hx hb dX5_takesWay_65 (by decide) (fun c_7 => ?_) (fun c_7 => ?_)
        · have hF := iteF hF c_7
          refine lv_aload_n hx hb dX5_takesWay_70 rfl (lv_at hl 4 rfl) ?_
          refine va_get (D := D) (ci := 5) (v := .ref (ad 7)) (C := RX5) (T := TX5) (N := 30) hx hb hts hiX5 hown hK hP 0 (wM_0 ad cA σ) rfl 9 (by decide) hw0 (fun _ h9 => h9) rfl dX5_takesWay_71 ?_
          refine lv_iload hx hb dX5_takesWay_74 (lv_at hl 1 rfl) ?_
          refine lv_aload_n hx hb dX5_takesWay_76 rfl (lv_at hl 4 rfl) ?_
          refine va_get (D := D) (ci := 5) (v := .int (σ.2 3)) (C := RX5) (T := TX5) (N := 30) hx hb hts hiX5 hown hK hP 0 (wM_0 ad cA σ) rfl 11 (by decide) hw2 (fun _ h9 => h9) rfl dX5_takesWay_77 ?_
          obtain ⟨hb_8, hF⟩ := chk_some hF
          obtain ⟨σ9, e9, hF⟩ := stp_some hF
          refine gw_iast hx hb hK hP hD hS (wM_7 ad cA σ) (tM_7 cA) (wMs_7 ad cA σ) hb_8 dX5_takesWay_80 e9 (fun H locs hP hD hS => ?_)
          refine lv_aload_n hx hb dX5_takesWay_81 rfl (lv_at hl 4 rfl) ?_
          refine va_get (D := D) (ci := 5) (v := .ref (ad 7)) (C := RX5) (T := TX5) (N := 30) hx hb hts hiX5 hown hK hP 0 (wM_0 ad cA σ9) rfl 9 (by decide) hw0 (fun _ h9 => h9) rfl dX5_takesWay_82 ?_
          refine lv_iload hx hb dX5_takesWay_85 (lv_at hl 0 rfl) ?_
          refine lv_aload_n hx hb dX5_takesWay_87 rfl (lv_at hl 4 rfl) ?_
          refine va_get (D := D) (ci := 5) (v := .int (σ9.2 3)) (C := RX5) (T := TX5) (N := 30) hx hb hts hiX5 hown hK hP 0 (wM_0 ad cA σ9) rfl 11 (by decide) hw2 (fun _ h9 => h9) rfl dX5_takesWay_88 ?_
          obtain ⟨hb_10, hF⟩ := chk_some hF
          obtain ⟨σ11, e11, hF⟩ := stp_some hF
          refine gw_iast hx hb hK hP hD hS (wM_7 ad cA σ9) (tM_7 cA) (wMs_7 ad cA σ9) hb_10 dX5_takesWay_91 e11 (fun H locs hP hD hS => ?_)
          refine lv_iconst (v := 1) hx hb dX5_takesWay_92 (by decide) ?_
          exact g_iretN hx hb hr rfl hlocks hP hK hD hS dX5_takesWay_93 hF
        · have hF := iteT hF c_7
          refine lv_iconst (v := 0) hx hb dX5_takesWay_68 (by decide) ?_
          exact g_iretN hx hb hr rfl hlocks hP hK hD hS dX5_takesWay_69 hF
    · have hF := iteF hF c_5
      refine lv_aload_n hx hb dX5_takesWay_44 rfl (lv_at hl 4 rfl) ?_
      refine va_get (D := D) (ci := 5) (v := .ref (ad 7)) (C := RX5) (T := TX5) (N := 30) hx hb hts hiX5 hown hK hP 0 (wM_0 ad cA σ) rfl 9 (by decide) hw0 (fun _ h9 => h9) rfl dX5_takesWay_45 ?_
      refine lv_iload_n hx hb dX5_takesWay_48 rfl (lv_at hl 3 rfl) ?_
      refine lv_aload_n hx hb dX5_takesWay_49 rfl (lv_at hl 4 rfl) ?_
      refine va_get (D := D) (ci := 5) (v := .int (σ.2 3)) (C := RX5) (T := TX5) (N := 30) hx hb hts hiX5 hown hK hP 0 (wM_0 ad cA σ) rfl 11 (by decide) hw2 (fun _ h9 => h9) rfl dX5_takesWay_50 ?_
      obtain ⟨hb_12, hF⟩ := chk_some hF
      obtain ⟨σ13, e13, hF⟩ := stp_some hF
      refine gw_iast hx hb hK hP hD hS (wM_7 ad cA σ) (tM_7 cA) (wMs_7 ad cA σ) hb_12 dX5_takesWay_53 e13 (fun H locs hP hD hS => ?_)
      refine lv_iconst (v := 1) hx hb dX5_takesWay_54 (by decide) ?_
      exact g_iretN hx hb hr rfl hlocks hP hK hD hS dX5_takesWay_55 hF
  · have hF := iteT hF c_1
    refine lv_iconst (v := 1) hx hb dX5_takesWay_5 (by decide) ?_
    exact g_iretN hx hb hr rfl hlocks hP hK hD hS dX5_takesWay_6 hF
