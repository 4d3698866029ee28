set_option maxHeartbeats 4000000 in
set_option maxRecDepth 100000 in
theorem tyc_T_cut (l : Launch) (D : va_G) (ad : Nat → Nat) (cA : Nat → ClassId) (sz : Nat) (σ : tyS) (p1 : Int32) (p2 : Int32) (p3 : Int32) (res : tyX) (hl9 : l.stackTraces = false) (hF : tyf_T_cut σ p1 p2 p3 = some res) : gXi gStr l yX4_cut wsX4_cut ({ frames := 7, cells := 1, slots := 6, locals := 104 } : Room) D (wC ad cA) (tC cA) [.ref (ad 0), .int p1, .int p2, .int p3] sz σ res := by
  refine ty_ofW (cc := cX4_cut) (maxL := 6) (ret := (some .int)) (by decide) rfl ?_
  intro p e s m args below meth c s₁ B hml ht9 hv
  obtain ⟨rfl, ⟨hsz, hP, hK, hD0, hNN⟩, hOK⟩ := hv
  have hx := B.exec
  have hb := B.bytes
  have hr := B.returns
  have hts := atoms_spec (ws := wsX4_cut) B.pre
  have hown : s.vm.findClass RX4 = some m.cls := findClass_of_methodNamed B.named
  have hlocks := B.notSynchronized
  subst hsz
  have hD := hD0.self (sz := s.heap.size)
  generalize hAe : va_A (wC ad cA σ) s.heap.size = A at hD hOK ⊢
  have hA : ∀ q : Nat, s.heap.size ≤ q → A q := fun q h => by rw [← hAe]; exact Or.inr h
  clear hAe hD0
  have hS : va_S A s.heap s.heap [] := va_S.rf
  have hl := lv_entry ([.ref (ad 0), .int p1, .int p2, .int p3]) (n := 6) (Nat.le_of_ble_eq_true rfl)
  rw [lg_entry_eq]
  generalize (lg_sl ([.ref (ad 0), .int p1, .int p2, .int p3]) ++ List.replicate (6 - (lg_sl ([.ref (ad 0), .int p1, .int p2, .int p3])).length) Slot.unset).toArray = ls at hl ⊢
  have hl : lv_has ls 6 [(0, .ref (ad 0)), (1, .int p1), (2, .int p2), (3, .int p3)] := hl
  have hS9 : CallFix p m c cX4_cut 6 s _ wsX4_cut RX4 := ⟨hx, hb, hml, hown, hts⟩
  have hw0 := hts (.fieldLink RX4 36 "TrunkYards" "board" "LTrunkYards$Switchboard;") (List.mem_cons_of_mem _ (List.mem_of_getElem? (i := 2) rfl))
  have hiX4 : ∀ w ∈ wsX40, w ∈ wsX4_cut := fun w h => List.mem_cons_of_mem _ (List.mem_append_left _ (List.mem_append_left _ (List.mem_append_left _ (List.mem_append_left _ (List.mem_append_right _ h)))))
  have hw2 := hts (.classLink RX4 73 "java/lang/IllegalStateException") (List.mem_cons_of_mem _ (List.mem_of_getElem? (i := 0) rfl))
  have hw3 := hts (.initialized "java/lang/IllegalStateException") (List.mem_cons_of_mem _ (List.mem_of_getElem? (i := 1) rfl))
  unfold tyf_T_cut at hF
  refine lv_iload_n hx hb dX4_cut_0 rfl (lv_at hl 1 rfl) ?_
  refine lv_iload_n hx hb dX4_cut_1 rfl (lv_at hl 2 rfl) ?_
  refine lv_iload_n hx hb dX4_cut_2 rfl (lv_at hl 3 rfl) ?_
  rcases bX_some hF with ⟨kr2, r2, σ1, er2, hF⟩ | ⟨r2, σ1, er2, hF⟩
  · exact gx_T (gx_runS (As := [.int p1, .int p2, .int p3]) (Qc := gQXv D (wC ad cA) (tC cA) _ _) hS9 (tyc_T_requireTrunk l D ad cA _ σ p1 p2 p3 _ hl9 er2) (va_cwS 3 hts gX4_cut_X4_requireTrunk rfl rfl rfl hd_X4_requireTrunk ⟨by decide, by decide⟩) hOK hK hP hD hS hA hNN rfl hl.1 rfl (Nat.le_of_ble_eq_true rfl) dX4_cut_3 ⟨by decide, by decide⟩) (gx_nov rfl) rfl hF ht9 hlocks hK hD hS hA
  refine gx_Rv (rest2 := ([.int p1, .int p2, .int p3])) (gx_runS (As := [.int p1, .int p2, .int p3]) (Qc := gQXv D (wC ad cA) (tC cA) _ _) hS9 (tyc_T_requireTrunk l D ad cA _ σ p1 p2 p3 _ hl9 er2) (va_cwS 3 hts gX4_cut_X4_requireTrunk rfl rfl rfl hd_X4_requireTrunk ⟨by decide, by decide⟩) hOK hK hP hD hS hA hNN rfl hl.1 rfl (Nat.le_of_ble_eq_true rfl) dX4_cut_3 ⟨by decide, by decide⟩) rfl hK hD hS hA (fun H locs hP hD hS => ?_)
  refine lv_iload_n hx hb dX4_cut_6 rfl (lv_at hl 1 rfl) ?_
  refine lv_iload_n hx hb dX4_cut_7 rfl (lv_at hl 2 rfl) ?_
  refine lv_iload_n hx hb dX4_cut_8 rfl (lv_at hl 3 rfl) ?_
  obtain ⟨r3, er3, hF⟩ := bR_some hF
  refine gc_Si (As := [.int p1, .int p2, .int p3]) hS9 (tyc_T_slotOf l D ad cA _ σ1 p1 p2 p3 r3 er3) (va_cwS 3 hts gX4_cut_X4_slotOf rfl rfl rfl hd_X4_slotOf ⟨by decide, by decide⟩) hK hP hD hS hA hNN rfl hl.1 rfl (Nat.le_of_ble_eq_true rfl) dX4_cut_9 (fun H locs hP hD hS => ?_)
  refine lv_istore (lv' := [(4, .int r3), (0, .ref (ad 0)), (1, .int p1), (2, .int p2), (3, .int p3)]) hx hb dX4_cut_12 hl (by decide) rfl (fun ls hl => ?_)
  refine lv_aload_n hx hb dX4_cut_14 rfl (lv_at hl 1 rfl) ?_
  refine va_get (D := D) (ci := 4) (v := .ref (ad 5)) (C := RX4) (T := TX4) (N := 12) hx hb hts hiX4 hown hK hP 0 (wC_0 ad cA σ1) rfl 4 (by decide) hw0 (fun _ h9 => h9) rfl dX4_cut_15 ?_
  refine lv_iload hx hb dX4_cut_18 (lv_at hl 0 rfl) ?_
  obtain ⟨r4, er4, hF⟩ := bR_some hF
  refine gc_Vi (As := [.int r3]) hS9 (tyc_B_trunkHas l D ad cA _ σ1 r3 r4 er4) (cwV 1 hts gX4_cut_X3_trunkHas rfl rfl rfl hd_X3_trunkHas ⟨by decide, by decide⟩) hK hP hD hS hA hNN (ci := 3) (q0 := 5) (N := 9) rfl (wC_5 ad cA σ1) rfl hl.1 rfl (Nat.le_of_ble_eq_true rfl) dX4_cut_20 (fun H locs hP hD hS => ?_)
  refine lv_istore (lv' := [(5, .int r4), (4, .int r3), (0, .ref (ad 0)), (1, .int p1), (2, .int p2), (3, .int p3)]) hx hb dX4_cut_23 hl (by decide) rfl (fun ls hl => ?_)
  refine lv_iload hx hb dX4_cut_25 (lv_at hl 0 rfl) ?_
  refine lv_bipush (v := (-2)) hx hb dX4_cut_27 (by decide) ?_
  refine lv_icmp_ne (tgt := 42) hx hb dX4_cut_29 (by decide) (fun c_5 => ?_) (fun c_5 => ?_)
  · have hF := iteF hF c_5
    refine lv_iload hx hb dX4_cut_42 (lv_at hl 0 rfl) ?_
    refine lv_iconst (v := (-1)) hx hb dX4_cut_44 (by decide) ?_
    refine lv_icmp_eq (tgt := 54) hx hb dX4_cut_45 (by decide) (fun c_6 => ?_) (fun c_6 => ?_)
    · have hF := iteT hF c_6
      refine lv_aload_n hx hb dX4_cut_54 rfl (lv_at hl 2 rfl) ?_
      refine va_get (D := D) (ci := 4) (v := .ref (ad 5)) (C := RX4) (T := TX4) (N := 12) hx hb hts hiX4 hown hK hP 0 (wC_0 ad cA σ1) rfl 4 (by decide) hw0 (fun _ h9 => h9) rfl dX4_cut_55 ?_
      refine lv_iload hx hb dX4_cut_58 (lv_at hl 1 rfl) ?_
      refine lv_bipush (v := (-2)) hx hb dX4_cut_60 (by decide) ?_
      obtain ⟨σ7, e7, hF⟩ := bR_some hF
      refine gc_Vv (As := [.int r3, .int (-2)]) hS9 (tyc_B_setTrunk l D ad cA _ σ1 r3 (-2) σ7 e7) (cwV 2 hts gX4_cut_X3_setTrunk rfl rfl rfl hd_X3_setTrunk ⟨by decide, by decide⟩) hK hP hD hS hA hNN (ci := 3) (q0 := 5) (N := 9) rfl (wC_5 ad cA σ1) rfl hl.1 rfl (Nat.le_of_ble_eq_true rfl) dX4_cut_62 (fun H locs hP hD hS => ?_)
      refine lv_iload hx hb dX4_cut_65 (lv_at hl 0 rfl) ?_
      exact g_iretX hx hb hr rfl hlocks hP hK hD hS dX4_cut_67 hF
    · have hF := iteF hF c_6
      refine lv_aload_n hx hb dX4_cut_48 rfl (lv_at hl 2 rfl) ?_
      refine lv_iload hx hb dX4_cut_49 (lv_at hl 0 rfl) ?_
      obtain ⟨σ8, e8, hF⟩ := bR_some hF
      refine gc_Vv (As := [.int r4]) hS9 (tyc_T_cutOff l D ad cA _ σ1 r4 σ8 e8) (cwV 1 hts gX4_cut_X4_cutOff rfl rfl rfl hd_X4_cutOff ⟨by decide, by decide⟩) hK hP hD hS hA hNN (ci := 4) (q0 := 0) (N := 12) rfl (wC_0 ad cA σ1) rfl hl.1 rfl (Nat.le_of_ble_eq_true rfl) dX4_cut_51 (fun H locs hP hD hS => ?_)
      refine lv_aload_n hx hb dX4_cut_54 rfl (lv_at hl 2 rfl) ?_
      refine va_get (D := D) (ci := 4) (v := .ref (ad 5)) (C := RX4) (T := TX4) (N := 12) hx hb hts hiX4 hown hK hP 0 (wC_0 ad cA σ8) rfl 4 (by decide) hw0 (fun _ h9 => h9) rfl dX4_cut_55 ?_
      refine lv_iload hx hb dX4_cut_58 (lv_at hl 1 rfl) ?_
      refine lv_bipush (v := (-2)) hx hb dX4_cut_60 (by decide) ?_
      obtain ⟨σ9, e9, hF⟩ := bR_some hF
      refine gc_Vv (As := [.int r3, .int (-2)]) hS9 (tyc_B_setTrunk l D ad cA _ σ8 r3 (-2) σ9 e9) (cwV 2 hts gX4_cut_X3_setTrunk rfl rfl rfl hd_X3_setTrunk ⟨by decide, by decide⟩) hK hP hD hS hA hNN (ci := 3) (q0 := 5) (N := 9) rfl (wC_5 ad cA σ8) rfl hl.1 rfl (Nat.le_of_ble_eq_true rfl) dX4_cut_62 (fun H locs hP hD hS => ?_)
      refine lv_iload hx hb dX4_cut_65 (lv_at hl 0 rfl) ?_
      exact g_iretX hx hb hr rfl hlocks hP hK hD hS dX4_cut_67 hF
  · have hF := iteT hF c_5
    exact gx_throwS (own := RX4) (cls := "java/lang/IllegalStateException") (text := "the trunk is cut") (k := 1) hx hb hl9 hown rfl (by decide +kernel) hw2 hw3 (fun w h => hts w (List.mem_cons_of_mem _ (List.mem_append_left _ (List.mem_append_right _ h)))) gnoX4_77 ggdX4_73_77 hOK (List.mem_of_getElem? (i := 11) rfl) (by rw [hml]; exact hl.1) ht9 hlocks hP hK hD hS dX4_cut_32 dX4_cut_35 dX4_cut_36 dX4_cut_38 dX4_cut_41 ⟨by decide, by decide, by decide, by decide⟩ hF
set_option maxHeartbeats 4000000 in
set_option maxRecDepth 100000 in
theorem tyc_T_mend (l : Launch) (D : va_G) (ad : Nat → Nat) (cA : Nat → ClassId) (sz : Nat) (σ : tyS) (p1 : Int32) (p2 : Int32) (p3 : Int32) (res : tyX) (hl9 : l.stackTraces = false) (hF : tyf_T_mend σ p1 p2 p3 = some res) : gXv gStr l yX4_mend wsX4_mend ({ frames := 7, cells := 1, slots := 6, locals := 104 } : Room) D (wC ad cA) (tC cA) [.ref (ad 0), .int p1, .int p2, .int p3] sz σ res := by
  refine ty_ofW (cc := cX4_mend) (maxL := 5) (ret := none) (by decide) rfl ?_
  intro p e s m args below meth c s₁ B hml ht9 hv
  obtain ⟨rfl, ⟨hsz, hP, hK, hD0, hNN⟩, hOK⟩ := hv
  have hx := B.exec
  have hb := B.bytes
  have hr := B.returns
  have hts := atoms_spec (ws := wsX4_mend) B.pre
  have hown : s.vm.findClass RX4 = some m.cls := findClass_of_methodNamed B.named
  have hlocks := B.notSynchronized
  subst hsz
  have hD := hD0.self (sz := s.heap.size)
  generalize hAe : va_A (wC ad cA σ) s.heap.size = A at hD hOK ⊢
  have hA : ∀ q : Nat, s.heap.size ≤ q → A q := fun q h => by rw [← hAe]; exact Or.inr h
  clear hAe hD0
  have hS : va_S A s.heap s.heap [] := va_S.rf
  have hl := lv_entry ([.ref (ad 0), .int p1, .int p2, .int p3]) (n := 5) (Nat.le_of_ble_eq_true rfl)
  rw [lg_entry_eq]
  generalize (lg_sl ([.ref (ad 0), .int p1, .int p2, .int p3]) ++ List.replicate (5 - (lg_sl ([.ref (ad 0), .int p1, .int p2, .int p3])).length) Slot.unset).toArray = ls at hl ⊢
  have hl : lv_has ls 5 [(0, .ref (ad 0)), (1, .int p1), (2, .int p2), (3, .int p3)] := hl
  have hS9 : CallFix p m c cX4_mend 5 s _ wsX4_mend RX4 := ⟨hx, hb, hml, hown, hts⟩
  have hw0 := hts (.fieldLink RX4 36 "TrunkYards" "board" "LTrunkYards$Switchboard;") (List.mem_cons_of_mem _ (List.mem_of_getElem? (i := 2) rfl))
  have hiX4 : ∀ w ∈ wsX40, w ∈ wsX4_mend := fun w h => List.mem_cons_of_mem _ (List.mem_append_left _ (List.mem_append_left _ (List.mem_append_left _ (List.mem_append_right _ h))))
  have hw2 := hts (.classLink RX4 73 "java/lang/IllegalStateException") (List.mem_cons_of_mem _ (List.mem_of_getElem? (i := 0) rfl))
  have hw3 := hts (.initialized "java/lang/IllegalStateException") (List.mem_cons_of_mem _ (List.mem_of_getElem? (i := 1) rfl))
  unfold tyf_T_mend at hF
  refine lv_iload_n hx hb dX4_mend_0 rfl (lv_at hl 1 rfl) ?_
  refine lv_iload_n hx hb dX4_mend_1 rfl (lv_at hl 2 rfl) ?_
  refine lv_iload_n hx hb dX4_mend_2 rfl (lv_at hl 3 rfl) ?_
  rcases bX_some hF with ⟨kr2, r2, σ1, er2, hF⟩ | ⟨r2, σ1, er2, hF⟩
  · exact gx_T (gx_runS (As := [.int p1, .int p2, .int p3]) (Qc := gQXv D (wC ad cA) (tC cA) _ _) hS9 (tyc_T_requireTrunk l D ad cA _ σ p1 p2 p3 _ hl9 er2) (va_cwS 3 hts gX4_mend_X4_requireTrunk rfl rfl rfl hd_X4_requireTrunk ⟨by decide, by decide⟩) hOK hK hP hD hS hA hNN rfl hl.1 rfl (Nat.le_of_ble_eq_true rfl) dX4_mend_3 ⟨by decide, by decide⟩) (gx_nov rfl) rfl hF ht9 hlocks hK hD hS hA
  refine gx_Rv (rest2 := ([.int p1, .int p2, .int p3])) (gx_runS (As := [.int p1, .int p2, .int p3]) (Qc := gQXv D (wC ad cA) (tC cA) _ _) hS9 (tyc_T_requireTrunk l D ad cA _ σ p1 p2 p3 _ hl9 er2) (va_cwS 3 hts gX4_mend_X4_requireTrunk rfl rfl rfl hd_X4_requireTrunk ⟨by decide, by decide⟩) hOK hK hP hD hS hA hNN rfl hl.1 rfl (Nat.le_of_ble_eq_true rfl) dX4_mend_3 ⟨by decide, by decide⟩) rfl hK hD hS hA (fun H locs hP hD hS => ?_)
  refine lv_iload_n hx hb dX4_mend_6 rfl (lv_at hl 1 rfl) ?_
  refine lv_iload_n hx hb dX4_mend_7 rfl (lv_at hl 2 rfl) ?_
  refine lv_iload_n hx hb dX4_mend_8 rfl (lv_at hl 3 rfl) ?_
  obtain ⟨r3, er3, hF⟩ := bR_some hF
  refine gc_Si (As := [.int p1, .int p2, .int p3]) hS9 (tyc_T_slotOf l D ad cA _ σ1 p1 p2 p3 r3 er3) (va_cwS 3 hts gX4_mend_X4_slotOf rfl rfl rfl hd_X4_slotOf ⟨by decide, by decide⟩) hK hP hD hS hA hNN rfl hl.1 rfl (Nat.le_of_ble_eq_true rfl) dX4_mend_9 (fun H locs hP hD hS => ?_)
  refine lv_istore (lv' := [(4, .int r3), (0, .ref (ad 0)), (1, .int p1), (2, .int p2), (3, .int p3)]) hx hb dX4_mend_12 hl (by decide) rfl (fun ls hl => ?_)
  refine lv_aload_n hx hb dX4_mend_14 rfl (lv_at hl 1 rfl) ?_
  refine va_get (D := D) (ci := 4) (v := .ref (ad 5)) (C := RX4) (T := TX4) (N := 12) hx hb hts hiX4 hown hK hP 0 (wC_0 ad cA σ1) rfl 4 (by decide) hw0 (fun _ h9 => h9) rfl dX4_mend_15 ?_
  refine lv_iload hx hb dX4_mend_18 (lv_at hl 0 rfl) ?_
  obtain ⟨r4, er4, hF⟩ := bR_some hF
  refine gc_Vi (As := [.int r3]) hS9 (tyc_B_trunkHas l D ad cA _ σ1 r3 r4 er4) (cwV 1 hts gX4_mend_X3_trunkHas rfl rfl rfl hd_X3_trunkHas ⟨by decide, by decide⟩) hK hP hD hS hA hNN (ci := 3) (q0 := 5) (N := 9) rfl (wC_5 ad cA σ1) rfl hl.1 rfl (Nat.le_of_ble_eq_true rfl) dX4_mend_20 (fun H locs hP hD hS => ?_)
  refine lv_bipush (v := (-2)) hx hb dX4_mend_23 (by decide) ?_
  refine lv_icmp_eq (tgt := 38) hx hb dX4_mend_25 (by decide) (fun c_5 => ?_) (fun c_5 => ?_)
  · have hF := iteT hF c_5
    refine lv_aload_n hx hb dX4_mend_38 rfl (lv_at hl 1 rfl) ?_
    refine va_get (D := D) (ci := 4) (v := .ref (ad 5)) (C := RX4) (T := TX4) (N := 12) hx hb hts hiX4 hown hK hP 0 (wC_0 ad cA σ1) rfl 4 (by decide) hw0 (fun _ h9 => h9) rfl dX4_mend_39 ?_
    refine lv_iload hx hb dX4_mend_42 (lv_at hl 0 rfl) ?_
    refine lv_iconst (v := (-1)) hx hb dX4_mend_44 (by decide) ?_
    obtain ⟨σ6, e6, hF⟩ := bR_some hF
    refine gc_Vv (As := [.int r3, .int (-1)]) hS9 (tyc_B_setTrunk l D ad cA _ σ1 r3 (-1) σ6 e6) (cwV 2 hts gX4_mend_X3_setTrunk rfl rfl rfl hd_X3_setTrunk ⟨by decide, by decide⟩) hK hP hD hS hA hNN (ci := 3) (q0 := 5) (N := 9) rfl (wC_5 ad cA σ1) rfl hl.1 rfl (Nat.le_of_ble_eq_true rfl) dX4_mend_45 (fun H locs hP hD hS => ?_)
    exact g_vretX hx hb hr hlocks hP hK hD hS dX4_mend_48 hF
  · have hF := iteF hF c_5
    exact gx_throwS (own := RX4) (cls := "java/lang/IllegalStateException") (text := "the trunk is not cut") (k := 1) hx hb hl9 hown rfl (by decide +kernel) hw2 hw3 (fun w h => hts w (List.mem_cons_of_mem _ (List.mem_append_left _ (List.mem_append_right _ h)))) gnoX4_77 ggdX4_73_77 hOK (List.mem_of_getElem? (i := 12) rfl) (by rw [hml]; exact hl.1) ht9 hlocks hP hK hD hS dX4_mend_28 dX4_mend_31 dX4_mend_32 dX4_mend_34 dX4_mend_37 ⟨by decide, by decide, by decide, by decide⟩ hF
set_option maxHeartbeats 4000000 in
set_option maxRecDepth 100000 in
theorem tyc_T_trunk (l : Launch) (D : va_G) (ad : Nat → Nat) (cA : Nat → ClassId) (sz : Nat) (σ : tyS) (p1 : Int32) (p2 : Int32) (p3 : Int32) (res : tyX) (hl9 : l.stackTraces = false) (hF : tyf_T_trunk σ p1 p2 p3 = some res) : gXi gStr l yX4_trunk wsX4_trunk ({ frames := 7, cells := 1, slots := 6, locals := 104 } : Room) D (wC ad cA) (tC cA) [.ref (ad 0), .int p1, .int p2, .int p3] sz σ res := by
  refine ty_ofW (cc := cX4_trunk) (maxL := 4) (ret := (some .int)) (by decide) rfl ?_
  intro p e s m args below meth c s₁ B hml ht9 hv
  obtain ⟨rfl, ⟨hsz, hP, hK, hD0, hNN⟩, hOK⟩ := hv
  have hx := B.exec
  have hb := B.bytes
  have hr := B.returns
  have hts := atoms_spec (ws := wsX4_trunk) B.pre
  have hown : s.vm.findClass RX4 = some m.cls := findClass_of_methodNamed B.named
  have hlocks := B.notSynchronized
  subst hsz
  have hD := hD0.self (sz := s.heap.size)
  generalize hAe : va_A (wC ad cA σ) s.heap.size = A at hD hOK ⊢
  have hA : ∀ q : Nat, s.heap.size ≤ q → A q := fun q h => by rw [← hAe]; exact Or.inr h
  clear hAe hD0
  have hS : va_S A s.heap s.heap [] := va_S.rf
  have hl := lv_entry ([.ref (ad 0), .int p1, .int p2, .int p3]) (n := 4) (Nat.le_of_ble_eq_true rfl)
  rw [lg_entry_eq]
  generalize (lg_sl ([.ref (ad 0), .int p1, .int p2, .int p3]) ++ List.replicate (4 - (lg_sl ([.ref (ad 0), .int p1, .int p2, .int p3])).length) Slot.unset).toArray = ls at hl ⊢
  have hl : lv_has ls 4 [(0, .ref (ad 0)), (1, .int p1), (2, .int p2), (3, .int p3)] := hl
  have hS9 : CallFix p m c cX4_trunk 4 s _ wsX4_trunk RX4 := ⟨hx, hb, hml, hown, hts⟩
  have hw0 := hts (.fieldLink RX4 36 "TrunkYards" "board" "LTrunkYards$Switchboard;") (List.mem_cons_of_mem _ (List.mem_of_getElem? (i := 0) rfl))
  have hiX4 : ∀ w ∈ wsX40, w ∈ wsX4_trunk := fun w h => List.mem_cons_of_mem _ (List.mem_append_left _ (List.mem_append_left _ (List.mem_append_right _ h)))
  unfold tyf_T_trunk at hF
  refine lv_iload_n hx hb dX4_trunk_0 rfl (lv_at hl 1 rfl) ?_
  refine lv_iload_n hx hb dX4_trunk_1 rfl (lv_at hl 2 rfl) ?_
  refine lv_iload_n hx hb dX4_trunk_2 rfl (lv_at hl 3 rfl) ?_
  rcases bX_some hF with ⟨kr2, r2, σ1, er2, hF⟩ | ⟨r2, σ1, er2, hF⟩
  · exact gx_T (gx_runS (As := [.int p1, .int p2, .int p3]) (Qc := gQXv D (wC ad cA) (tC cA) _ _) hS9 (tyc_T_requireTrunk l D ad cA _ σ p1 p2 p3 _ hl9 er2) (va_cwS 3 hts gX4_trunk_X4_requireTrunk rfl rfl rfl hd_X4_requireTrunk ⟨by decide, by decide⟩) hOK hK hP hD hS hA hNN rfl hl.1 rfl (Nat.le_of_ble_eq_true rfl) dX4_trunk_3 ⟨by decide, by decide⟩) (gx_nov rfl) rfl hF ht9 hlocks hK hD hS hA
  refine gx_Rv (rest2 := ([.int p1, .int p2, .int p3])) (gx_runS (As := [.int p1, .int p2, .int p3]) (Qc := gQXv D (wC ad cA) (tC cA) _ _) hS9 (tyc_T_requireTrunk l D ad cA _ σ p1 p2 p3 _ hl9 er2) (va_cwS 3 hts gX4_trunk_X4_requireTrunk rfl rfl rfl hd_X4_requireTrunk ⟨by decide, by decide⟩) hOK hK hP hD hS hA hNN rfl hl.1 rfl (Nat.le_of_ble_eq_true rfl) dX4_trunk_3 ⟨by decide, by decide⟩) rfl hK hD hS hA (fun H locs hP hD hS => ?_)
  refine lv_aload_n hx hb dX4_trunk_6 rfl (lv_at hl 0 rfl) ?_
  refine va_get (D := D) (ci := 4) (v := .ref (ad 5)) (C := RX4) (T := TX4) (N := 12) hx hb hts hiX4 hown hK hP 0 (wC_0 ad cA σ1) rfl 4 (by decide) hw0 (fun _ h9 => h9) rfl dX4_trunk_7 ?_
  refine lv_iload_n hx hb dX4_trunk_10 rfl (lv_at hl 1 rfl) ?_
  refine lv_iload_n hx hb dX4_trunk_11 rfl (lv_at hl 2 rfl) ?_
  refine lv_iload_n hx hb dX4_trunk_12 rfl (lv_at hl 3 rfl) ?_
  obtain ⟨r3, er3, hF⟩ := bR_some hF
  refine gc_Si (As := [.int p1, .int p2, .int p3]) hS9 (tyc_T_slotOf l D ad cA _ σ1 p1 p2 p3 r3 er3) (va_cwS 3 hts gX4_trunk_X4_slotOf rfl rfl rfl hd_X4_slotOf ⟨by decide, by decide⟩) hK hP hD hS hA hNN rfl hl.1 rfl (Nat.le_of_ble_eq_true rfl) dX4_trunk_13 (fun H locs hP hD hS => ?_)
  obtain ⟨r4, er4, hF⟩ := bR_some hF
  refine gc_Vi (As := [.int r3]) hS9 (tyc_B_trunkHas l D ad cA _ σ1 r3 r4 er4) (cwV 1 hts gX4_trunk_X3_trunkHas rfl rfl rfl hd_X3_trunkHas ⟨by decide, by decide⟩) hK hP hD hS hA hNN (ci := 3) (q0 := 5) (N := 9) rfl (wC_5 ad cA σ1) rfl hl.1 rfl (Nat.le_of_ble_eq_true rfl) dX4_trunk_16 (fun H locs hP hD hS => ?_)
  exact g_iretX hx hb hr rfl hlocks hP hK hD hS dX4_trunk_19 hF
set_option maxHeartbeats 4000000 in
set_option maxRecDepth 100000 in
theorem tyc_B_changeLines (l : Launch) (D : va_G) (ad : Nat → Nat) (cA : Nat → ClassId) (sz : Nat) (σ : tyS) (p1 : Int32) (p2 : Int32) (r : Int32) (τ : tyS) (hF : tyf_B_changeLines σ p1 p2 = some (r, τ)) : gMi l yX3_changeLines wsX3_changeLines ({ frames := 0, cells := 0, slots := 0, locals := 0 } : Room) D (wC ad cA) (tC cA) [.ref (ad 5), .int p1, .int p2] sz σ r τ := by
  refine Met.ofW (cc := cX3_changeLines) (maxL := 4) (ret := (some .int)) (by decide) rfl ?_
  intro p e s m args below meth c s₁ B hml hv
  obtain ⟨rfl, hsz, hP, hK, hD0, hNN⟩ := hv
  have hx := B.exec
  have hb := B.bytes
  have hr := B.returns
  have hts := atoms_spec (ws := wsX3_changeLines) B.pre
  have hown : s.vm.findClass RX3 = some m.cls := findClass_of_methodNamed B.named
  have hlocks := B.notSynchronized
  subst hsz
  have hD := hD0.self (sz := s.heap.size)
  generalize hAe : va_A (wC ad cA σ) s.heap.size = A at hD ⊢
  have hA : ∀ q : Nat, s.heap.size ≤ q → A q := fun q h => by rw [← hAe]; exact Or.inr h
  clear hAe hD0
  have hS : va_S A s.heap s.heap [] := va_S.rf
  have hl := lv_entry ([.ref (ad 5), .int p1, .int p2]) (n := 4) (Nat.le_of_ble_eq_true rfl)
  rw [lg_entry_eq]
  generalize (lg_sl ([.ref (ad 5), .int p1, .int p2]) ++ List.replicate (4 - (lg_sl ([.ref (ad 5), .int p1, .int p2])).length) Slot.unset).toArray = ls at hl ⊢
  have hl : lv_has ls 4 [(0, .ref (ad 5)), (1, .int p1), (2, .int p2)] := hl
  have hw0 := hts (.fieldLink RX3 33 "TrunkYards$Switchboard" "lineCounts" "[I") (List.mem_cons_of_mem _ (List.mem_of_getElem? (i := 0) rfl))
  have hiX3 : ∀ w ∈ wsX30, w ∈ wsX3_changeLines := fun w h => List.mem_cons_of_mem _ (List.mem_append_right _ h)
  unfold tyf_B_changeLines at hF
  refine lv_aload_n hx hb dX3_changeLines_0 rfl (lv_at hl 0 rfl) ?_
  refine va_get (D := D) (ci := 3) (v := .ref (ad 28)) (C := RX3) (T := TX3) (N := 9) hx hb hts hiX3 hown hK hP 5 (wC_5 ad cA σ) rfl 7 (by decide) hw0 (fun _ h9 => h9) rfl dX3_changeLines_1 ?_
  refine lv_iload_n hx hb dX3_changeLines_4 rfl (lv_at hl 1 rfl) ?_
  obtain ⟨hb_1, hF⟩ := chk_some hF
  refine va_iald hx hb hK hP 28 22 (wC_28 ad cA σ) (tC_28 cA) hb_1 dX3_changeLines_5 ?_
  refine lv_istore_n (lv' := [(3, .int (σ.1 28 (p1).toNatClampNeg)), (0, .ref (ad 5)), (1, .int p1), (2, .int p2)]) hx hb dX3_changeLines_6 rfl hl (by decide) rfl (fun ls hl => ?_)
  refine lv_aload_n hx hb dX3_changeLines_7 rfl (lv_at hl 1 rfl) ?_
  refine va_get (D := D) (ci := 3) (v := .ref (ad 28)) (C := RX3) (T := TX3) (N := 9) hx hb hts hiX3 hown hK hP 5 (wC_5 ad cA σ) rfl 7 (by decide) hw0 (fun _ h9 => h9) rfl dX3_changeLines_8 ?_
  refine lv_iload_n hx hb dX3_changeLines_11 rfl (lv_at hl 2 rfl) ?_
  refine lv_iload_n hx hb dX3_changeLines_12 rfl (lv_at hl 3 rfl) ?_
  obtain ⟨hb_2, hF⟩ := chk_some hF
  obtain ⟨σ3, e3, hF⟩ := stp_some hF
  refine gw_iast hx hb hK hP hD hS (wC_28 ad cA σ) (tC_28 cA) (wCs_28 ad cA σ) hb_2 dX3_changeLines_13 e3 (fun H locs hP hD hS => ?_)
  refine lv_iload_n hx hb dX3_changeLines_14 rfl (lv_at hl 0 rfl) ?_
  exact g_iretN hx hb hr rfl hlocks hP hK hD hS dX3_changeLines_15 hF
set_option maxHeartbeats 4000000 in
set_option maxRecDepth 100000 in
theorem tyc_T_setLines (l : Launch) (D : va_G) (ad : Nat → Nat) (cA : Nat → ClassId) (sz : Nat) (σ : tyS) (p1 : Int32) (p2 : Int32) (res : tyX) (hl9 : l.stackTraces = false) (hF : tyf_T_setLines σ p1 p2 = some res) : gXi gStr l yX4_setLines wsX4_setLines ({ frames := 7, cells := 1, slots := 6, locals := 102 } : Room) D (wC ad cA) (tC cA) [.ref (ad 0), .int p1, .int p2] sz σ res := by
  refine ty_ofW (cc := cX4_setLines) (maxL := 3) (ret := (some .int)) (by decide) rfl ?_
  intro p e s m args below meth c s₁ B hml ht9 hv
  obtain ⟨rfl, ⟨hsz, hP, hK, hD0, hNN⟩, hOK⟩ := hv
  have hx := B.exec
  have hb := B.bytes
  have hr := B.returns
  have hts := atoms_spec (ws := wsX4_setLines) B.pre
  have hown : s.vm.findClass RX4 = some m.cls := findClass_of_methodNamed B.named
  have hlocks := B.notSynchronized
  subst hsz
  have hD := hD0.self (sz := s.heap.size)
  generalize hAe : va_A (wC ad cA σ) s.heap.size = A at hD hOK ⊢
  have hA : ∀ q : Nat, s.heap.size ≤ q → A q := fun q h => by rw [← hAe]; exact Or.inr h
  clear hAe hD0
  have hS : va_S A s.heap s.heap [] := va_S.rf
  have hl := lv_entry ([.ref (ad 0), .int p1, .int p2]) (n := 3) (Nat.le_of_ble_eq_true rfl)
  rw [lg_entry_eq]
  generalize (lg_sl ([.ref (ad 0), .int p1, .int p2]) ++ List.replicate (3 - (lg_sl ([.ref (ad 0), .int p1, .int p2])).length) Slot.unset).toArray = ls at hl ⊢
  have hl : lv_has ls 3 [(0, .ref (ad 0)), (1, .int p1), (2, .int p2)] := hl
  have hS9 : CallFix p m c cX4_setLines 3 s _ wsX4_setLines RX4 := ⟨hx, hb, hml, hown, hts⟩
  have hw0 := hts (.classLink RX4 86 "java/lang/IllegalArgumentException") (List.mem_cons_of_mem _ (List.mem_of_getElem? (i := 0) rfl))
  have hw1 := hts (.initialized "java/lang/IllegalArgumentException") (List.mem_cons_of_mem _ (List.mem_of_getElem? (i := 1) rfl))
  have hw2 := hts (.fieldLink RX4 36 "TrunkYards" "board" "LTrunkYards$Switchboard;") (List.mem_cons_of_mem _ (List.mem_of_getElem? (i := 4) rfl))
  have hiX4 : ∀ w ∈ wsX40, w ∈ wsX4_setLines := fun w h => List.mem_cons_of_mem _ (List.mem_append_left _ (List.mem_append_left _ (List.mem_append_left _ (List.mem_append_right _ h))))
  have hw4 := hts (.classLink RX4 73 "java/lang/IllegalStateException") (List.mem_cons_of_mem _ (List.mem_of_getElem? (i := 2) rfl))
  have hw5 := hts (.initialized "java/lang/IllegalStateException") (List.mem_cons_of_mem _ (List.mem_of_getElem? (i := 3) rfl))
  unfold tyf_T_setLines at hF
  refine lv_iload_n hx hb dX4_setLines_0 rfl (lv_at hl 1 rfl) ?_
  rcases bX_some hF with ⟨kr2, r2, σ1, er2, hF⟩ | ⟨r2, σ1, er2, hF⟩
  · exact gx_T (gx_runS (As := [.int p1]) (Qc := gQXv D (wC ad cA) (tC cA) _ _) hS9 (tyc_T_requireYard l D ad cA _ σ p1 _ hl9 er2) (va_cwS 1 hts gX4_setLines_X4_requireYard rfl rfl rfl hd_X4_requireYard ⟨by decide, by decide⟩) hOK hK hP hD hS hA hNN rfl hl.1 rfl (Nat.le_of_ble_eq_true rfl) dX4_setLines_1 ⟨by decide, by decide⟩) (gx_nov rfl) rfl hF ht9 hlocks hK hD hS hA
  refine gx_Rv (rest2 := ([.int p1])) (gx_runS (As := [.int p1]) (Qc := gQXv D (wC ad cA) (tC cA) _ _) hS9 (tyc_T_requireYard l D ad cA _ σ p1 _ hl9 er2) (va_cwS 1 hts gX4_setLines_X4_requireYard rfl rfl rfl hd_X4_requireYard ⟨by decide, by decide⟩) hOK hK hP hD hS hA hNN rfl hl.1 rfl (Nat.le_of_ble_eq_true rfl) dX4_setLines_1 ⟨by decide, by decide⟩) rfl hK hD hS hA (fun H locs hP hD hS => ?_)
  refine lv_iload_n hx hb dX4_setLines_4 rfl (lv_at hl 2 rfl) ?_
  refine lv_if_lt (tgt := 13) hx hb dX4_setLines_5 (by decide) (fun c_3 => ?_) (fun c_3 => ?_)
  · have hF := iteT hF c_3
    exact gx_throwS (own := RX4) (cls := "java/lang/IllegalArgumentException") (text := "lines is out of range") (k := 0) hx hb hl9 hown rfl (by decide +kernel) hw0 hw1 (fun w h => hts w (List.mem_cons_of_mem _ (List.mem_append_left _ (List.mem_append_right _ h)))) gnoX4_90 ggdX4_86_90 hOK (List.mem_of_getElem? (i := 13) rfl) (by rw [hml]; exact hl.1) ht9 hlocks hP hK hD hS dX4_setLines_13 dX4_setLines_16 dX4_setLines_17 dX4_setLines_19 dX4_setLines_22 ⟨by decide, by decide, by decide, by decide⟩ hF
  · have hF := iteF hF c_3
    refine lv_iload_n hx hb dX4_setLines_8 rfl (lv_at hl 2 rfl) ?_
    refine lv_iconst (v := 3) hx hb dX4_setLines_9 (by decide) ?_
    refine lv_icmp_le (tgt := 23) hx hb dX4_setLines_10 (by decide) (fun c_4 => ?_) (fun c_4 => ?_)
    · have hF := iteT hF c_4
      refine lv_aload_n hx hb dX4_setLines_23 rfl (lv_at hl 0 rfl) ?_
      refine va_get (D := D) (ci := 4) (v := .ref (ad 5)) (C := RX4) (T := TX4) (N := 12) hx hb hts hiX4 hown hK hP 0 (wC_0 ad cA σ1) rfl 4 (by decide) hw2 (fun _ h9 => h9) rfl dX4_setLines_24 ?_
      refine lv_iload_n hx hb dX4_setLines_27 rfl (lv_at hl 1 rfl) ?_
      obtain ⟨r5, er5, hF⟩ := bR_some hF
      refine gc_Vi (As := [.int p1]) hS9 (tyc_B_callsTo l D ad cA _ σ1 p1 r5 er5) (cwV 1 hts gX4_setLines_X3_callsTo rfl rfl rfl hd_X3_callsTo ⟨by decide, by decide⟩) hK hP hD hS hA hNN (ci := 3) (q0 := 5) (N := 9) rfl (wC_5 ad cA σ1) rfl hl.1 rfl (Nat.le_of_ble_eq_true rfl) dX4_setLines_28 (fun H locs hP hD hS => ?_)
      refine lv_iload_n hx hb dX4_setLines_31 rfl (lv_at hl 2 rfl) ?_
      refine lv_icmp_le (tgt := 45) hx hb dX4_setLines_32 (by decide) (fun c_6 => ?_) (fun c_6 => ?_)
      · have hF := iteT hF c_6
        refine lv_aload_n hx hb dX4_setLines_45 rfl (lv_at hl 0 rfl) ?_
        refine va_get (D := D) (ci := 4) (v := .ref (ad 5)) (C := RX4) (T := TX4) (N := 12) hx hb hts hiX4 hown hK hP 0 (wC_0 ad cA σ1) rfl 4 (by decide) hw2 (fun _ h9 => h9) rfl dX4_setLines_46 ?_
        refine lv_iload_n hx hb dX4_setLines_49 rfl (lv_at hl 1 rfl) ?_
        refine lv_iload_n hx hb dX4_setLines_50 rfl (lv_at hl 2 rfl) ?_
        obtain ⟨r8, σ7, er8, hF⟩ := bN_some hF
        refine gc_Vi (As := [.int p1, .int p2]) hS9 (tyc_B_changeLines l D ad cA _ σ1 p1 p2 r8 σ7 er8) (cwV 2 hts gX4_setLines_X3_changeLines rfl rfl rfl hd_X3_changeLines ⟨by decide, by decide⟩) hK hP hD hS hA hNN (ci := 3) (q0 := 5) (N := 9) rfl (wC_5 ad cA σ1) rfl hl.1 rfl (Nat.le_of_ble_eq_true rfl) dX4_setLines_51 (fun H locs hP hD hS => ?_)
        exact g_iretX hx hb hr rfl hlocks hP hK hD hS dX4_setLines_54 hF
      · have hF := iteF hF c_6
        exact gx_throwS (own := RX4) (cls := "java/lang/IllegalStateException") (text := "more calls to the yard go on") (k := 1) hx hb hl9 hown rfl (by decide +kernel) hw4 hw5 (fun w h => hts w (List.mem_cons_of_mem _ (List.mem_append_right _ h))) gnoX4_77 ggdX4_73_77 hOK (List.mem_of_getElem? (i := 14) rfl) (by rw [hml]; exact hl.1) ht9 hlocks hP hK hD hS dX4_setLines_35 dX4_setLines_38 dX4_setLines_39 dX4_setLines_41 dX4_setLines_44 ⟨by decide, by decide, by decide, by decide⟩ hF
    · have hF := iteF hF c_4
      exact gx_throwS (own := RX4) (cls := "java/lang/IllegalArgumentException") (text := "lines is out of range") (k := 0) hx hb hl9 hown rfl (by decide +kernel) hw0 hw1 (fun w h => hts w (List.mem_cons_of_mem _ (List.mem_append_left _ (List.mem_append_right _ h)))) gnoX4_90 ggdX4_86_90 hOK (List.mem_of_getElem? (i := 13) rfl) (by rw [hml]; exact hl.1) ht9 hlocks hP hK hD hS dX4_setLines_13 dX4_setLines_16 dX4_setLines_17 dX4_setLines_19 dX4_setLines_22 ⟨by decide, by decide, by decide, by decide⟩ hF
set_option maxHeartbeats 4000000 in
set_option maxRecDepth 100000 in
theorem tyc_L_lapseAll (l : Launch) (D : va_G) (ad : Nat → Nat) (cA : Nat → ClassId) (sz : Nat) (σ : tyS) (p1 : Int32) (r : Int32) (τ : tyS) (hF : tyf_L_lapseAll σ p1 = some (r, τ)) : gMi l yX1_lapseAll wsX1_lapseAll ({ frames := 2, cells := 0, slots := 0, locals := 45 } : Room) D (wC ad cA) (tC cA) [.ref (ad 4), .int p1] sz σ r τ := by
  refine Met.ofW (cc := cX1_lapseAll) (maxL := 4) (ret := (some .int)) (by decide) rfl ?_
  intro p e s m args below meth c s₁ B hml hv
  obtain ⟨rfl, hsz, hP, hK, hD0, hNN⟩ := hv
  have hx := B.exec
  have hb := B.bytes
  have hr := B.returns
  have hts := atoms_spec (ws := wsX1_lapseAll) B.pre
  have hown : s.vm.findClass RX1 = some m.cls := findClass_of_methodNamed B.named
  have hlocks := B.notSynchronized
  subst hsz
  have hD := hD0.self (sz := s.heap.size)
  generalize hAe : va_A (wC ad cA σ) s.heap.size = A at hD ⊢
  have hA : ∀ q : Nat, s.heap.size ≤ q → A q := fun q h => by rw [← hAe]; exact Or.inr h
  clear hAe hD0
  have hS : va_S A s.heap s.heap [] := va_S.rf
  have hl := lv_entry ([.ref (ad 4), .int p1]) (n := 4) (Nat.le_of_ble_eq_true rfl)
  rw [lg_entry_eq]
  generalize (lg_sl ([.ref (ad 4), .int p1]) ++ List.replicate (4 - (lg_sl ([.ref (ad 4), .int p1])).length) Slot.unset).toArray = ls at hl ⊢
  have hl : lv_has ls 4 [(0, .ref (ad 4)), (1, .int p1)] := hl
  have hS9 : CallFix p m c cX1_lapseAll 4 s _ wsX1_lapseAll RX1 := ⟨hx, hb, hml, hown, hts⟩
  have hw0 := hts (.fieldLink RX1 42 "TrunkYards$Ledger" "count" "I") (List.mem_cons_of_mem _ (List.mem_of_getElem? (i := 0) rfl))
  have hiX1 : ∀ w ∈ wsX10, w ∈ wsX1_lapseAll := fun w h => List.mem_cons_of_mem _ (List.mem_append_right _ h)
  have hw2 := hts (.fieldLink RX1 21 "TrunkYards$Ledger" "standings" "[I") (List.mem_cons_of_mem _ (List.mem_of_getElem? (i := 1) rfl))
  have hw3 := hts (.fieldLink RX1 24 "TrunkYards$Ledger" "lapseTicks" "[I") (List.mem_cons_of_mem _ (List.mem_of_getElem? (i := 2) rfl))
  unfold tyf_L_lapseAll at hF
  refine lv_iconst (v := 0) hx hb dX1_lapseAll_0 (by decide) ?_
  refine lv_istore_n (lv' := [(2, .int 0), (0, .ref (ad 4)), (1, .int p1)]) hx hb dX1_lapseAll_1 rfl hl (by decide) rfl (fun ls hl => ?_)
  refine lv_iconst (v := 0) hx hb dX1_lapseAll_2 (by decide) ?_
  refine lv_istore_n (lv' := [(3, .int 0), (2, .int 0), (0, .ref (ad 4)), (1, .int p1)]) hx hb dX1_lapseAll_3 rfl hl (by decide) rfl (fun ls hl => ?_)
  have lp4 : ∀ (k : tyS → Int32 → Int32 → Int32 → Option (Int32 × tyS)), (∀ (σ0 : tyS) (x1 : Int32) (x2 : Int32) (x3 : Int32) , k σ0 x1 x2 x3 = some (r, τ) → ∀ (H : Heap) (locs : List Loc) (ls : Array Slot), va_P D vwCl (wC ad cA σ0) H → va_D A (wC ad cA σ0) → va_S A s.heap H locs → lv_has ls 4 [(0, .ref (ad 4)), (1, .int x1), (2, .int x2), (3, .int x3)] → W p l e (headSpec wsX1_lapseAll ({ frames := 2, cells := 0, slots := 0, locals := 45 } : Room)).room s m #[.ref (ad 4), .int p1] below meth c H locs 0 0 (MQ below (gQi D (wC ad cA) (tC cA) A r τ) #[.ref (ad 4), .int p1] s 0 0 A) (F0 m 47 ls [])) → ∀ (n : Nat), ∀ (σ0 : tyS) (x1 : Int32) (x2 : Int32) (x3 : Int32) , tyl_L_lapseAll_4 k n σ0 x1 x2 x3 = some (r, τ) → ∀ (H : Heap) (locs : List Loc) (ls : Array Slot), va_P D vwCl (wC ad cA σ0) H → va_D A (wC ad cA σ0) → va_S A s.heap H locs → lv_has ls 4 [(0, .ref (ad 4)), (1, .int x1), (2, .int x2), (3, .int x3)] → W p l e (headSpec wsX1_lapseAll ({ frames := 2, cells := 0, slots := 0, locals := 45 } : Room)).room s m #[.ref (ad 4), .int p1] below meth c H locs 0 0 (MQ below (gQi D (wC ad cA) (tC cA) A r τ) #[.ref (ad 4), .int p1] s 0 0 A) (F0 m 4 ls []) := by
    intro k hk n
    induction n with
    | zero =>
      intro σ0 x1 x2 x3 hF
      exact absurd hF (fun h => nomatch h)
    | succ n ih =>
      intro σ0 x1 x2 x3 hF H locs ls hP hD hS hl
      have hF : tyb_L_lapseAll_4 k (tyl_L_lapseAll_4 k n) σ0 x1 x2 x3 = some (r, τ) := hF
      unfold tyb_L_lapseAll_4 at hF
      refine lv_iload_n hx hb dX1_lapseAll_4 rfl (lv_at hl 3 rfl) ?_
      refine lv_aload_n hx hb dX1_lapseAll_5 rfl (lv_at hl 0 rfl) ?_
      refine va_get (D := D) (ci := 1) (v := .int (σ0.2 5)) (C := RX1) (T := TX1) (N := 9) hx hb hts hiX1 hown hK hP 4 (wC_4 ad cA σ0) rfl 8 (by decide) hw0 (fun _ h9 => h9) rfl dX1_lapseAll_6 ?_
      refine lv_icmp_ge (tgt := 47) hx hb dX1_lapseAll_9 (by decide) (fun c_1 => ?_) (fun c_1 => ?_)
      · have hF := iteT hF c_1
        exact hk σ0 x1 x2 x3 hF _ _ _ hP hD hS (lv_sub hl [0, 1, 2, 3] rfl)
      · have hF := iteF hF c_1
        refine lv_aload_n hx hb dX1_lapseAll_12 rfl (lv_at hl 0 rfl) ?_
        refine va_get (D := D) (ci := 1) (v := .ref (ad 16)) (C := RX1) (T := TX1) (N := 9) hx hb hts hiX1 hown hK hP 4 (wC_4 ad cA σ0) rfl 3 (by decide) hw2 (fun _ h9 => h9) rfl dX1_lapseAll_13 ?_
        refine lv_iload_n hx hb dX1_lapseAll_16 rfl (lv_at hl 3 rfl) ?_
        obtain ⟨hb_2, hF⟩ := chk_some hF
        refine va_iald hx hb hK hP 16 10 (wC_16 ad cA σ0) (tC_16 cA) hb_2 dX1_lapseAll_17 ?_
        refine lv_iconst (v := 1) hx hb dX1_lapseAll_18 (by decide) ?_
        refine lv_icmp_ne (tgt := 41) hx hb dX1_lapseAll_19 (by decide) (fun c_3 => ?_) (fun c_3 => ?_)
        · have hF := iteF hF c_3
          refine lv_iinc (v := (x3 + 1)) (lv' := [(3, .int (x3 + 1)), (0, .ref (ad 4)), (1, .int x1), (2, .int x2)]) hx hb dX1_lapseAll_41 hl (k := 3) rfl rfl (by decide) rfl (fun ls hl => ?_)
          refine lv_goto (tgt := 4) hx hb dX1_lapseAll_44 (by decide) ?_
          exact ih σ0 x1 x2 (x3 + 1) hF _ _ _ hP hD hS (lv_sub hl [1, 2, 3, 0] rfl)
        · have hF := iteT hF c_3
          refine lv_aload_n hx hb dX1_lapseAll_22 rfl (lv_at hl 0 rfl) ?_
          refine va_get (D := D) (ci := 1) (v := .ref (ad 17)) (C := RX1) (T := TX1) (N := 9) hx hb hts hiX1 hown hK hP 4 (wC_4 ad cA σ0) rfl 4 (by decide) hw3 (fun _ h9 => h9) rfl dX1_lapseAll_23 ?_
          refine lv_iload_n hx hb dX1_lapseAll_26 rfl (lv_at hl 3 rfl) ?_
          obtain ⟨hb_4, hF⟩ := chk_some hF
          refine va_iald hx hb hK hP 17 11 (wC_17 ad cA σ0) (tC_17 cA) hb_4 dX1_lapseAll_27 ?_
          refine lv_iload_n hx hb dX1_lapseAll_28 rfl (lv_at hl 1 rfl) ?_
          refine lv_icmp_gt (tgt := 41) hx hb dX1_lapseAll_29 (by decide) (fun c_5 => ?_) (fun c_5 => ?_)
          · have hF := iteT hF c_5
            refine lv_iinc (v := (x3 + 1)) (lv' := [(3, .int (x3 + 1)), (0, .ref (ad 4)), (1, .int x1), (2, .int x2)]) hx hb dX1_lapseAll_41 hl (k := 3) rfl rfl (by decide) rfl (fun ls hl => ?_)
            refine lv_goto (tgt := 4) hx hb dX1_lapseAll_44 (by decide) ?_
            exact ih σ0 x1 x2 (x3 + 1) hF _ _ _ hP hD hS (lv_sub hl [1, 2, 3, 0] rfl)
          · have hF := iteF hF c_5
            refine lv_aload_n hx hb dX1_lapseAll_32 rfl (lv_at hl 0 rfl) ?_
            refine lv_iload_n hx hb dX1_lapseAll_33 rfl (lv_at hl 3 rfl) ?_
            refine lv_iconst (v := 5) hx hb dX1_lapseAll_34 (by decide) ?_
            obtain ⟨σ6, e6, hF⟩ := bR_some hF
            refine gc_Vv (As := [.int x3, .int 5]) hS9 (tyc_L_release l D ad cA _ σ0 x3 5 σ6 e6) (cwV 2 hts gX1_lapseAll_X1_release rfl rfl rfl hd_X1_release ⟨by decide, by decide⟩) hK hP hD hS hA hNN (ci := 1) (q0 := 4) (N := 9) rfl (wC_4 ad cA σ0) rfl hl.1 rfl (Nat.le_of_ble_eq_true rfl) dX1_lapseAll_35 (fun H locs hP hD hS => ?_)
            refine lv_iinc (v := (x2 + 1)) (lv' := [(2, .int (x2 + 1)), (0, .ref (ad 4)), (1, .int x1), (3, .int x3)]) hx hb dX1_lapseAll_38 hl (k := 2) rfl rfl (by decide) rfl (fun ls hl => ?_)
            refine lv_iinc (v := (x3 + 1)) (lv' := [(3, .int (x3 + 1)), (2, .int (x2 + 1)), (0, .ref (ad 4)), (1, .int x1)]) hx hb dX1_lapseAll_41 hl (k := 3) rfl rfl (by decide) rfl (fun ls hl => ?_)
            refine lv_goto (tgt := 4) hx hb dX1_lapseAll_44 (by decide) ?_
            exact ih σ6 x1 (x2 + 1) (x3 + 1) hF _ _ _ hP hD hS (lv_sub hl [2, 3, 1, 0] rfl)
  refine lp4 _ ?_ 64 σ p1 0 0 hF _ _ _ hP hD hS (lv_sub hl [2, 3, 1, 0] rfl)
  intro σ0 x1 x2 x3 hF H locs ls hP hD hS hl
  refine lv_iload_n hx hb dX1_lapseAll_47 rfl (lv_at hl 2 rfl) ?_
  exact g_iretN hx hb hr rfl hlocks hP hK hD hS dX1_lapseAll_48 hF
set_option maxHeartbeats 4000000 in
set_option maxRecDepth 100000 in
theorem tyc_T_pass (l : Launch) (D : va_G) (ad : Nat → Nat) (cA : Nat → ClassId) (sz : Nat) (σ : tyS) (p1 : Int32) (res : tyX) (hl9 : l.stackTraces = false) (hF : tyf_T_pass σ p1 = some res) : gXi gStr l yX4_pass wsX4_pass ({ frames := 6, cells := 1, slots := 6, locals := 82 } : Room) D (wC ad cA) (tC cA) [.ref (ad 0), .int p1] sz σ res := by
  refine ty_ofW (cc := cX4_pass) (maxL := 2) (ret := (some .int)) (by decide) rfl ?_
  intro p e s m args below meth c s₁ B hml ht9 hv
  obtain ⟨rfl, ⟨hsz, hP, hK, hD0, hNN⟩, hOK⟩ := hv
  have hx := B.exec
  have hb := B.bytes
  have hr := B.returns
  have hts := atoms_spec (ws := wsX4_pass) B.pre
  have hown : s.vm.findClass RX4 = some m.cls := findClass_of_methodNamed B.named
  have hlocks := B.notSynchronized
  subst hsz
  have hD := hD0.self (sz := s.heap.size)
  generalize hAe : va_A (wC ad cA σ) s.heap.size = A at hD hOK ⊢
  have hA : ∀ q : Nat, s.heap.size ≤ q → A q := fun q h => by rw [← hAe]; exact Or.inr h
  clear hAe hD0
  have hS : va_S A s.heap s.heap [] := va_S.rf
  have hl := lv_entry ([.ref (ad 0), .int p1]) (n := 2) (Nat.le_of_ble_eq_true rfl)
  rw [lg_entry_eq]
  generalize (lg_sl ([.ref (ad 0), .int p1]) ++ List.replicate (2 - (lg_sl ([.ref (ad 0), .int p1])).length) Slot.unset).toArray = ls at hl ⊢
  have hl : lv_has ls 2 [(0, .ref (ad 0)), (1, .int p1)] := hl
  have hS9 : CallFix p m c cX4_pass 2 s _ wsX4_pass RX4 := ⟨hx, hb, hml, hown, hts⟩
  have hw0 := hts (.classLink RX4 86 "java/lang/IllegalArgumentException") (List.mem_cons_of_mem _ (List.mem_of_getElem? (i := 0) rfl))
  have hw1 := hts (.initialized "java/lang/IllegalArgumentException") (List.mem_cons_of_mem _ (List.mem_of_getElem? (i := 1) rfl))
  have hw2 := hts (.fieldLink RX4 246 "TrunkYards" "now" "I") (List.mem_cons_of_mem _ (List.mem_of_getElem? (i := 4) rfl))
  have hiX4 : ∀ w ∈ wsX40, w ∈ wsX4_pass := fun w h => List.mem_cons_of_mem _ (List.mem_append_left _ (List.mem_append_left _ (List.mem_append_left _ (List.mem_append_right _ h))))
  have hw4 := hts (.fieldLink RX4 29 "TrunkYards" "ledger" "LTrunkYards$Ledger;") (List.mem_cons_of_mem _ (List.mem_of_getElem? (i := 5) rfl))
  have hw5 := hts (.classLink RX4 73 "java/lang/IllegalStateException") (List.mem_cons_of_mem _ (List.mem_of_getElem? (i := 2) rfl))
  have hw6 := hts (.initialized "java/lang/IllegalStateException") (List.mem_cons_of_mem _ (List.mem_of_getElem? (i := 3) rfl))
  unfold tyf_T_pass at hF
  refine lv_iload_n hx hb dX4_pass_0 rfl (lv_at hl 1 rfl) ?_
  refine lv_iconst (v := 1) hx hb dX4_pass_1 (by decide) ?_
  refine lv_icmp_lt (tgt := 11) hx hb dX4_pass_2 (by decide) (fun c_1 => ?_) (fun c_1 => ?_)
  · have hF := iteT hF c_1
    exact gx_throwS (own := RX4) (cls := "java/lang/IllegalArgumentException") (text := "ticks is out of range") (k := 0) hx hb hl9 hown rfl (by decide +kernel) hw0 hw1 (fun w h => hts w (List.mem_cons_of_mem _ (List.mem_append_left _ (List.mem_append_right _ h)))) gnoX4_90 ggdX4_86_90 hOK (List.mem_of_getElem? (i := 15) rfl) (by rw [hml]; exact hl.1) ht9 hlocks hP hK hD hS dX4_pass_11 dX4_pass_14 dX4_pass_15 dX4_pass_17 dX4_pass_20 ⟨by decide, by decide, by decide, by decide⟩ hF
  · have hF := iteF hF c_1
    refine lv_iload_n hx hb dX4_pass_5 rfl (lv_at hl 1 rfl) ?_
    refine lv_bipush (v := 100) hx hb dX4_pass_6 (by decide) ?_
    refine lv_icmp_le (tgt := 21) hx hb dX4_pass_8 (by decide) (fun c_2 => ?_) (fun c_2 => ?_)
    · have hF := iteT hF c_2
      refine lv_aload_n hx hb dX4_pass_21 rfl (lv_at hl 0 rfl) ?_
      refine va_get (D := D) (ci := 4) (v := .int (σ.2 3)) (C := RX4) (T := TX4) (N := 12) hx hb hts hiX4 hown hK hP 0 (wC_0 ad cA σ) rfl 11 (by decide) hw2 (fun _ h9 => h9) rfl dX4_pass_22 ?_
      refine lv_iload_n hx hb dX4_pass_25 rfl (lv_at hl 1 rfl) ?_
      refine lv_iadd hx hb dX4_pass_26 ?_
      refine lv_sipush (v := 10000) hx hb dX4_pass_27 (by decide) ?_
      refine lv_icmp_le (tgt := 43) hx hb dX4_pass_30 (by decide) (fun c_3 => ?_) (fun c_3 => ?_)
      · have hF := iteT hF c_3
        refine lv_aload_n hx hb dX4_pass_43 rfl (lv_at hl 0 rfl) ?_
        refine lv_dup hx hb dX4_pass_44 rfl ?_
        refine va_get (D := D) (ci := 4) (v := .int (σ.2 3)) (C := RX4) (T := TX4) (N := 12) hx hb hts hiX4 hown hK hP 0 (wC_0 ad cA σ) rfl 11 (by decide) hw2 (fun _ h9 => h9) rfl dX4_pass_45 ?_
        refine lv_iload_n hx hb dX4_pass_48 rfl (lv_at hl 1 rfl) ?_
        refine lv_iadd hx hb dX4_pass_49 ?_
        obtain ⟨σ4, e4, hF⟩ := stp_some hF
        refine gw_put hx hb hts hiX4 tyX4 tyX4_ok nmX4 hown hK hP hD hS 0 (wC_0 ad cA σ) rfl 11 (by decide) hw2 (fun _ h9 => h9) rfl (by decide +kernel) (show 11 < 12 from by decide) (wCv_3 ad cA σ _) dX4_pass_50 e4 (fun H locs hP hD hS => ?_)
        refine lv_aload_n hx hb dX4_pass_53 rfl (lv_at hl 0 rfl) ?_
        refine va_get (D := D) (ci := 4) (v := .ref (ad 4)) (C := RX4) (T := TX4) (N := 12) hx hb hts hiX4 hown hK hP 0 (wC_0 ad cA σ4) rfl 3 (by decide) hw4 (fun _ h9 => h9) rfl dX4_pass_54 ?_
        refine lv_aload_n hx hb dX4_pass_57 rfl (lv_at hl 0 rfl) ?_
        refine va_get (D := D) (ci := 4) (v := .int (σ4.2 3)) (C := RX4) (T := TX4) (N := 12) hx hb hts hiX4 hown hK hP 0 (wC_0 ad cA σ4) rfl 11 (by decide) hw2 (fun _ h9 => h9) rfl dX4_pass_58 ?_
        obtain ⟨r6, σ5, er6, hF⟩ := bN_some hF
        refine gc_Vi (As := [.int (σ4.2 3)]) hS9 (tyc_L_lapseAll l D ad cA _ σ4 (σ4.2 3) r6 σ5 er6) (cwV 1 hts gX4_pass_X1_lapseAll rfl rfl rfl hd_X1_lapseAll ⟨by decide, by decide⟩) hK hP hD hS hA hNN (ci := 1) (q0 := 4) (N := 9) rfl (wC_4 ad cA σ4) rfl hl.1 rfl (Nat.le_of_ble_eq_true rfl) dX4_pass_61 (fun H locs hP hD hS => ?_)
        exact g_iretX hx hb hr rfl hlocks hP hK hD hS dX4_pass_64 hF
      · have hF := iteF hF c_3
        exact gx_throwS (own := RX4) (cls := "java/lang/IllegalStateException") (text := "too many ticks would have gone by") (k := 1) hx hb hl9 hown rfl (by decide +kernel) hw5 hw6 (fun w h => hts w (List.mem_cons_of_mem _ (List.mem_append_right _ h))) gnoX4_77 ggdX4_73_77 hOK (List.mem_of_getElem? (i := 16) rfl) (by rw [hml]; exact hl.1) ht9 hlocks hP hK hD hS dX4_pass_33 dX4_pass_36 dX4_pass_37 dX4_pass_39 dX4_pass_42 ⟨by decide, by decide, by decide, by decide⟩ hF
    · have hF := iteF hF c_2
      exact gx_throwS (own := RX4) (cls := "java/lang/IllegalArgumentException") (text := "ticks is out of range") (k := 0) hx hb hl9 hown rfl (by decide +kernel) hw0 hw1 (fun w h => hts w (List.mem_cons_of_mem _ (List.mem_append_left _ (List.mem_append_right _ h)))) gnoX4_90 ggdX4_86_90 hOK (List.mem_of_getElem? (i := 15) rfl) (by rw [hml]; exact hl.1) ht9 hlocks hP hK hD hS dX4_pass_11 dX4_pass_14 dX4_pass_15 dX4_pass_17 dX4_pass_20 ⟨by decide, by decide, by decide, by decide⟩ hF
set_option maxHeartbeats 4000000 in
set_option maxRecDepth 100000 in
theorem tyc_T_bookings (l : Launch) (D : va_G) (ad : Nat → Nat) (cA : Nat → ClassId) (sz : Nat) (σ : tyS) (r : Int32) (hF : tyf_T_bookings σ  = some r) : gMi l yX4_bookings wsX4_bookings ({ frames := 1, cells := 0, slots := 0, locals := 20 } : Room) D (wC ad cA) (tC cA) [.ref (ad 0)] sz σ r σ := by
  refine Met.ofW (cc := cX4_bookings) (maxL := 1) (ret := (some .int)) (by decide) rfl ?_
  intro p e s m args below meth c s₁ B hml hv
  obtain ⟨rfl, hsz, hP, hK, hD0, hNN⟩ := hv
  have hx := B.exec
  have hb := B.bytes
  have hr := B.returns
  have hts := atoms_spec (ws := wsX4_bookings) B.pre
  have hown : s.vm.findClass RX4 = some m.cls := findClass_of_methodNamed B.named
  have hlocks := B.notSynchronized
  subst hsz
  have hD := hD0.self (sz := s.heap.size)
  generalize hAe : va_A (wC ad cA σ) s.heap.size = A at hD ⊢
  have hA : ∀ q : Nat, s.heap.size ≤ q → A q := fun q h => by rw [← hAe]; exact Or.inr h
  clear hAe hD0
  have hS : va_S A s.heap s.heap [] := va_S.rf
  have hl := lv_entry ([.ref (ad 0)]) (n := 1) (Nat.le_of_ble_eq_true rfl)
  rw [lg_entry_eq]
  generalize (lg_sl ([.ref (ad 0)]) ++ List.replicate (1 - (lg_sl ([.ref (ad 0)])).length) Slot.unset).toArray = ls at hl ⊢
  have hl : lv_has ls 1 [(0, .ref (ad 0))] := hl
  have hS9 : CallFix p m c cX4_bookings 1 s _ wsX4_bookings RX4 := ⟨hx, hb, hml, hown, hts⟩
  have hw0 := hts (.fieldLink RX4 29 "TrunkYards" "ledger" "LTrunkYards$Ledger;") (List.mem_cons_of_mem _ (List.mem_of_getElem? (i := 0) rfl))
  have hiX4 : ∀ w ∈ wsX40, w ∈ wsX4_bookings := fun w h => List.mem_cons_of_mem _ (List.mem_append_left _ (List.mem_append_right _ h))
  unfold tyf_T_bookings at hF
  refine lv_aload_n hx hb dX4_bookings_0 rfl (lv_at hl 0 rfl) ?_
  refine va_get (D := D) (ci := 4) (v := .ref (ad 4)) (C := RX4) (T := TX4) (N := 12) hx hb hts hiX4 hown hK hP 0 (wC_0 ad cA σ) rfl 3 (by decide) hw0 (fun _ h9 => h9) rfl dX4_bookings_1 ?_
  obtain ⟨r1, er1, hF⟩ := bR_some hF
  refine gc_Vi (As := []) hS9 (tyc_L_opened l D ad cA _ σ  r1 er1) (cwV 0 hts gX4_bookings_X1_opened rfl rfl rfl hd_X1_opened ⟨by decide, by decide⟩) hK hP hD hS hA hNN (ci := 1) (q0 := 4) (N := 9) rfl (wC_4 ad cA σ) rfl hl.1 rfl (Nat.le_of_ble_eq_true rfl) dX4_bookings_4 (fun H locs hP hD hS => ?_)
  exact g_iretR hx hb hr rfl hlocks hP hK hD hS dX4_bookings_7 hF
set_option maxHeartbeats 4000000 in
set_option maxRecDepth 100000 in
theorem tyc_T_state (l : Launch) (D : va_G) (ad : Nat → Nat) (cA : Nat → ClassId) (sz : Nat) (σ : tyS) (p1 : Int32) (res : tyX) (hl9 : l.stackTraces = false) (hF : tyf_T_state σ p1 = some res) : gXi gStr l yX4_state wsX4_state ({ frames := 7, cells := 1, slots := 6, locals := 103 } : Room) D (wC ad cA) (tC cA) [.ref (ad 0), .int p1] sz σ res := by
  refine ty_ofW (cc := cX4_state) (maxL := 2) (ret := (some .int)) (by decide) rfl ?_
  intro p e s m args below meth c s₁ B hml ht9 hv
  obtain ⟨rfl, ⟨hsz, hP, hK, hD0, hNN⟩, hOK⟩ := hv
  have hx := B.exec
  have hb := B.bytes
  have hr := B.returns
  have hts := atoms_spec (ws := wsX4_state) B.pre
  have hown : s.vm.findClass RX4 = some m.cls := findClass_of_methodNamed B.named
  have hlocks := B.notSynchronized
  subst hsz
  have hD := hD0.self (sz := s.heap.size)
  generalize hAe : va_A (wC ad cA σ) s.heap.size = A at hD hOK ⊢
  have hA : ∀ q : Nat, s.heap.size ≤ q → A q := fun q h => by rw [← hAe]; exact Or.inr h
  clear hAe hD0
  have hS : va_S A s.heap s.heap [] := va_S.rf
  have hl := lv_entry ([.ref (ad 0), .int p1]) (n := 2) (Nat.le_of_ble_eq_true rfl)
  rw [lg_entry_eq]
  generalize (lg_sl ([.ref (ad 0), .int p1]) ++ List.replicate (2 - (lg_sl ([.ref (ad 0), .int p1])).length) Slot.unset).toArray = ls at hl ⊢
  have hl : lv_has ls 2 [(0, .ref (ad 0)), (1, .int p1)] := hl
  have hS9 : CallFix p m c cX4_state 2 s _ wsX4_state RX4 := ⟨hx, hb, hml, hown, hts⟩
  have hw0 := hts (.fieldLink RX4 29 "TrunkYards" "ledger" "LTrunkYards$Ledger;") (List.mem_cons_of_mem _ (List.mem_of_getElem? (i := 0) rfl))
  have hiX4 : ∀ w ∈ wsX40, w ∈ wsX4_state := fun w h => List.mem_cons_of_mem _ (List.mem_append_left _ (List.mem_append_left _ (List.mem_append_right _ h)))
  unfold tyf_T_state at hF
  refine lv_aload_n hx hb dX4_state_0 rfl (lv_at hl 0 rfl) ?_
  refine lv_iload_n hx hb dX4_state_1 rfl (lv_at hl 1 rfl) ?_
  rcases bX_some hF with ⟨kr2, r2, σ1, er2, hF⟩ | ⟨r2, σ1, er2, hF⟩
  · exact gx_T (gx_runV (As := [.int p1]) (Qc := gQXv D (wC ad cA) (tC cA) _ _) hS9 (tyc_T_requireBooking l D ad cA _ σ p1 _ hl9 er2) (cwV 1 hts gX4_state_X4_requireBooking rfl rfl rfl hd_X4_requireBooking ⟨by decide, by decide⟩) hOK hK hP hD hS hA hNN (ci := 4) (q0 := 0) (N := 12) rfl (wC_0 ad cA σ) rfl hl.1 rfl (Nat.le_of_ble_eq_true rfl) dX4_state_2 ⟨by decide, by decide⟩) (gx_nov rfl) rfl hF ht9 hlocks hK hD hS hA
  refine gx_Rv (rest2 := (.ref (ad 0) :: [.int p1])) (gx_runV (As := [.int p1]) (Qc := gQXv D (wC ad cA) (tC cA) _ _) hS9 (tyc_T_requireBooking l D ad cA _ σ p1 _ hl9 er2) (cwV 1 hts gX4_state_X4_requireBooking rfl rfl rfl hd_X4_requireBooking ⟨by decide, by decide⟩) hOK hK hP hD hS hA hNN (ci := 4) (q0 := 0) (N := 12) rfl (wC_0 ad cA σ) rfl hl.1 rfl (Nat.le_of_ble_eq_true rfl) dX4_state_2 ⟨by decide, by decide⟩) rfl hK hD hS hA (fun H locs hP hD hS => ?_)
  refine lv_aload_n hx hb dX4_state_5 rfl (lv_at hl 0 rfl) ?_
  refine va_get (D := D) (ci := 4) (v := .ref (ad 4)) (C := RX4) (T := TX4) (N := 12) hx hb hts hiX4 hown hK hP 0 (wC_0 ad cA σ1) rfl 3 (by decide) hw0 (fun _ h9 => h9) rfl dX4_state_6 ?_
  refine lv_iload_n hx hb dX4_state_9 rfl (lv_at hl 1 rfl) ?_
  obtain ⟨r3, er3, hF⟩ := bR_some hF
  refine gc_Vi (As := [.int p1]) hS9 (tyc_L_standing l D ad cA _ σ1 p1 r3 er3) (cwV 1 hts gX4_state_X1_standing rfl rfl rfl hd_X1_standing ⟨by decide, by decide⟩) hK hP hD hS hA hNN (ci := 1) (q0 := 4) (N := 9) rfl (wC_4 ad cA σ1) rfl hl.1 rfl (Nat.le_of_ble_eq_true rfl) dX4_state_10 (fun H locs hP hD hS => ?_)
  exact g_iretX hx hb hr rfl hlocks hP hK hD hS dX4_state_13 hF
set_option maxHeartbeats 4000000 in
set_option maxRecDepth 100000 in
theorem tyc_T_wagons (l : Launch) (D : va_G) (ad : Nat → Nat) (cA : Nat → ClassId) (sz : Nat) (σ : tyS) (p1 : Int32) (res : tyX) (hl9 : l.stackTraces = false) (hF : tyf_T_wagons σ p1 = some res) : gXi gStr l yX4_wagons wsX4_wagons ({ frames := 7, cells := 1, slots := 6, locals := 103 } : Room) D (wC ad cA) (tC cA) [.ref (ad 0), .int p1] sz σ res := by
  refine ty_ofW (cc := cX4_wagons) (maxL := 2) (ret := (some .int)) (by decide) rfl ?_
  intro p e s m args below meth c s₁ B hml ht9 hv
  obtain ⟨rfl, ⟨hsz, hP, hK, hD0, hNN⟩, hOK⟩ := hv
  have hx := B.exec
  have hb := B.bytes
  have hr := B.returns
  have hts := atoms_spec (ws := wsX4_wagons) B.pre
  have hown : s.vm.findClass RX4 = some m.cls := findClass_of_methodNamed B.named
  have hlocks := B.notSynchronized
  subst hsz
  have hD := hD0.self (sz := s.heap.size)
  generalize hAe : va_A (wC ad cA σ) s.heap.size = A at hD hOK ⊢
  have hA : ∀ q : Nat, s.heap.size ≤ q → A q := fun q h => by rw [← hAe]; exact Or.inr h
  clear hAe hD0
  have hS : va_S A s.heap s.heap [] := va_S.rf
  have hl := lv_entry ([.ref (ad 0), .int p1]) (n := 2) (Nat.le_of_ble_eq_true rfl)
  rw [lg_entry_eq]
  generalize (lg_sl ([.ref (ad 0), .int p1]) ++ List.replicate (2 - (lg_sl ([.ref (ad 0), .int p1])).length) Slot.unset).toArray = ls at hl ⊢
  have hl : lv_has ls 2 [(0, .ref (ad 0)), (1, .int p1)] := hl
  have hS9 : CallFix p m c cX4_wagons 2 s _ wsX4_wagons RX4 := ⟨hx, hb, hml, hown, hts⟩
  have hw0 := hts (.fieldLink RX4 29 "TrunkYards" "ledger" "LTrunkYards$Ledger;") (List.mem_cons_of_mem _ (List.mem_of_getElem? (i := 0) rfl))
  have hiX4 : ∀ w ∈ wsX40, w ∈ wsX4_wagons := fun w h => List.mem_cons_of_mem _ (List.mem_append_left _ (List.mem_append_left _ (List.mem_append_right _ h)))
  unfold tyf_T_wagons at hF
  refine lv_aload_n hx hb dX4_wagons_0 rfl (lv_at hl 0 rfl) ?_
  refine lv_iload_n hx hb dX4_wagons_1 rfl (lv_at hl 1 rfl) ?_
  rcases bX_some hF with ⟨kr2, r2, σ1, er2, hF⟩ | ⟨r2, σ1, er2, hF⟩
  · exact gx_T (gx_runV (As := [.int p1]) (Qc := gQXv D (wC ad cA) (tC cA) _ _) hS9 (tyc_T_requireBooking l D ad cA _ σ p1 _ hl9 er2) (cwV 1 hts gX4_wagons_X4_requireBooking rfl rfl rfl hd_X4_requireBooking ⟨by decide, by decide⟩) hOK hK hP hD hS hA hNN (ci := 4) (q0 := 0) (N := 12) rfl (wC_0 ad cA σ) rfl hl.1 rfl (Nat.le_of_ble_eq_true rfl) dX4_wagons_2 ⟨by decide, by decide⟩) (gx_nov rfl) rfl hF ht9 hlocks hK hD hS hA
  refine gx_Rv (rest2 := (.ref (ad 0) :: [.int p1])) (gx_runV (As := [.int p1]) (Qc := gQXv D (wC ad cA) (tC cA) _ _) hS9 (tyc_T_requireBooking l D ad cA _ σ p1 _ hl9 er2) (cwV 1 hts gX4_wagons_X4_requireBooking rfl rfl rfl hd_X4_requireBooking ⟨by decide, by decide⟩) hOK hK hP hD hS hA hNN (ci := 4) (q0 := 0) (N := 12) rfl (wC_0 ad cA σ) rfl hl.1 rfl (Nat.le_of_ble_eq_true rfl) dX4_wagons_2 ⟨by decide, by decide⟩) rfl hK hD hS hA (fun H locs hP hD hS => ?_)
  refine lv_aload_n hx hb dX4_wagons_5 rfl (lv_at hl 0 rfl) ?_
  refine va_get (D := D) (ci := 4) (v := .ref (ad 4)) (C := RX4) (T := TX4) (N := 12) hx hb hts hiX4 hown hK hP 0 (wC_0 ad cA σ1) rfl 3 (by decide) hw0 (fun _ h9 => h9) rfl dX4_wagons_6 ?_
  refine lv_iload_n hx hb dX4_wagons_9 rfl (lv_at hl 1 rfl) ?_
  obtain ⟨r3, er3, hF⟩ := bR_some hF
  refine gc_Vi (As := [.int p1]) hS9 (tyc_L_size l D ad cA _ σ1 p1 r3 er3) (cwV 1 hts gX4_wagons_X1_size rfl rfl rfl hd_X1_size ⟨by decide, by decide⟩) hK hP hD hS hA hNN (ci := 1) (q0 := 4) (N := 9) rfl (wC_4 ad cA σ1) rfl hl.1 rfl (Nat.le_of_ble_eq_true rfl) dX4_wagons_10 (fun H locs hP hD hS => ?_)
  exact g_iretX hx hb hr rfl hlocks hP hK hD hS dX4_wagons_13 hF
set_option maxHeartbeats 4000000 in
set_option maxRecDepth 100000 in
theorem tyc_T_wagonOf (l : Launch) (D : va_G) (ad : Nat → Nat) (cA : Nat → ClassId) (sz : Nat) (σ : tyS) (p1 : Int32) (p2 : Int32) (res : tyX) (hl9 : l.stackTraces = false) (hF : tyf_T_wagonOf σ p1 p2 = some res) : gXi gStr l yX4_wagonOf wsX4_wagonOf ({ frames := 7, cells := 1, slots := 6, locals := 103 } : Room) D (wC ad cA) (tC cA) [.ref (ad 0), .int p1, .int p2] sz σ res := by
  refine ty_ofW (cc := cX4_wagonOf) (maxL := 3) (ret := (some .int)) (by decide) rfl ?_
  intro p e s m args below meth c s₁ B hml ht9 hv
  obtain ⟨rfl, ⟨hsz, hP, hK, hD0, hNN⟩, hOK⟩ := hv
  have hx := B.exec
  have hb := B.bytes
  have hr := B.returns
  have hts := atoms_spec (ws := wsX4_wagonOf) B.pre
  have hown : s.vm.findClass RX4 = some m.cls := findClass_of_methodNamed B.named
  have hlocks := B.notSynchronized
  subst hsz
  have hD := hD0.self (sz := s.heap.size)
  generalize hAe : va_A (wC ad cA σ) s.heap.size = A at hD hOK ⊢
  have hA : ∀ q : Nat, s.heap.size ≤ q → A q := fun q h => by rw [← hAe]; exact Or.inr h
  clear hAe hD0
  have hS : va_S A s.heap s.heap [] := va_S.rf
  have hl := lv_entry ([.ref (ad 0), .int p1, .int p2]) (n := 3) (Nat.le_of_ble_eq_true rfl)
  rw [lg_entry_eq]
  generalize (lg_sl ([.ref (ad 0), .int p1, .int p2]) ++ List.replicate (3 - (lg_sl ([.ref (ad 0), .int p1, .int p2])).length) Slot.unset).toArray = ls at hl ⊢
  have hl : lv_has ls 3 [(0, .ref (ad 0)), (1, .int p1), (2, .int p2)] := hl
  have hS9 : CallFix p m c cX4_wagonOf 3 s _ wsX4_wagonOf RX4 := ⟨hx, hb, hml, hown, hts⟩
  have hw0 := hts (.classLink RX4 261 "java/lang/IndexOutOfBoundsException") (List.mem_cons_of_mem _ (List.mem_of_getElem? (i := 0) rfl))
  have hw1 := hts (.initialized "java/lang/IndexOutOfBoundsException") (List.mem_cons_of_mem _ (List.mem_of_getElem? (i := 1) rfl))
  have hw2 := hts (.fieldLink RX4 29 "TrunkYards" "ledger" "LTrunkYards$Ledger;") (List.mem_cons_of_mem _ (List.mem_of_getElem? (i := 2) rfl))
  have hiX4 : ∀ w ∈ wsX40, w ∈ wsX4_wagonOf := fun w h => List.mem_cons_of_mem _ (List.mem_append_left _ (List.mem_append_left _ (List.mem_append_right _ h)))
  unfold tyf_T_wagonOf at hF
  refine lv_aload_n hx hb dX4_wagonOf_0 rfl (lv_at hl 0 rfl) ?_
  refine lv_iload_n hx hb dX4_wagonOf_1 rfl (lv_at hl 1 rfl) ?_
  rcases bX_some hF with ⟨kr2, r2, σ1, er2, hF⟩ | ⟨r2, σ1, er2, hF⟩
  · exact gx_T (gx_runV (As := [.int p1]) (Qc := gQXv D (wC ad cA) (tC cA) _ _) hS9 (tyc_T_requireBooking l D ad cA _ σ p1 _ hl9 er2) (cwV 1 hts gX4_wagonOf_X4_requireBooking rfl rfl rfl hd_X4_requireBooking ⟨by decide, by decide⟩) hOK hK hP hD hS hA hNN (ci := 4) (q0 := 0) (N := 12) rfl (wC_0 ad cA σ) rfl hl.1 rfl (Nat.le_of_ble_eq_true rfl) dX4_wagonOf_2 ⟨by decide, by decide⟩) (gx_nov rfl) rfl hF ht9 hlocks hK hD hS hA
  refine gx_Rv (rest2 := (.ref (ad 0) :: [.int p1])) (gx_runV (As := [.int p1]) (Qc := gQXv D (wC ad cA) (tC cA) _ _) hS9 (tyc_T_requireBooking l D ad cA _ σ p1 _ hl9 er2) (cwV 1 hts gX4_wagonOf_X4_requireBooking rfl rfl rfl hd_X4_requireBooking ⟨by decide, by decide⟩) hOK hK hP hD hS hA hNN (ci := 4) (q0 := 0) (N := 12) rfl (wC_0 ad cA σ) rfl hl.1 rfl (Nat.le_of_ble_eq_true rfl) dX4_wagonOf_2 ⟨by decide, by decide⟩) rfl hK hD hS hA (fun H locs hP hD hS => ?_)
  refine lv_iload_n hx hb dX4_wagonOf_5 rfl (lv_at hl 2 rfl) ?_
  refine lv_if_lt (tgt := 21) hx hb dX4_wagonOf_6 (by decide) (fun c_3 => ?_) (fun c_3 => ?_)
  · have hF := iteT hF c_3
    exact gx_throwSW (own := RX4) (cls := "java/lang/IndexOutOfBoundsException") (text := "the booking has no such wagon") (k := 2) hx hb hl9 hown rfl (by decide +kernel) hw0 hw1 (fun w h => hts w (List.mem_cons_of_mem _ (List.mem_append_right _ h))) gnoX4_265 ggdX4_261_265 hOK (List.mem_of_getElem? (i := 17) rfl) (by rw [hml]; exact hl.1) ht9 hlocks hP hK hD hS dX4_wagonOf_21 dX4_wagonOf_24 dX4_wagonOf_25 dX4_wagonOf_28 dX4_wagonOf_31 ⟨by decide, by decide, by decide, by decide⟩ hF
  · have hF := iteF hF c_3
    refine lv_iload_n hx hb dX4_wagonOf_9 rfl (lv_at hl 2 rfl) ?_
    refine lv_aload_n hx hb dX4_wagonOf_10 rfl (lv_at hl 0 rfl) ?_
    refine va_get (D := D) (ci := 4) (v := .ref (ad 4)) (C := RX4) (T := TX4) (N := 12) hx hb hts hiX4 hown hK hP 0 (wC_0 ad cA σ1) rfl 3 (by decide) hw2 (fun _ h9 => h9) rfl dX4_wagonOf_11 ?_
    refine lv_iload_n hx hb dX4_wagonOf_14 rfl (lv_at hl 1 rfl) ?_
    obtain ⟨r4, er4, hF⟩ := bR_some hF
    refine gc_Vi (As := [.int p1]) hS9 (tyc_L_size l D ad cA _ σ1 p1 r4 er4) (cwV 1 hts gX4_wagonOf_X1_size rfl rfl rfl hd_X1_size ⟨by decide, by decide⟩) hK hP hD hS hA hNN (ci := 1) (q0 := 4) (N := 9) rfl (wC_4 ad cA σ1) rfl hl.1 rfl (Nat.le_of_ble_eq_true rfl) dX4_wagonOf_15 (fun H locs hP hD hS => ?_)
    refine lv_icmp_lt (tgt := 32) hx hb dX4_wagonOf_18 (by decide) (fun c_5 => ?_) (fun c_5 => ?_)
    · have hF := iteT hF c_5
      refine lv_aload_n hx hb dX4_wagonOf_32 rfl (lv_at hl 0 rfl) ?_
      refine va_get (D := D) (ci := 4) (v := .ref (ad 4)) (C := RX4) (T := TX4) (N := 12) hx hb hts hiX4 hown hK hP 0 (wC_0 ad cA σ1) rfl 3 (by decide) hw2 (fun _ h9 => h9) rfl dX4_wagonOf_33 ?_
      refine lv_iload_n hx hb dX4_wagonOf_36 rfl (lv_at hl 1 rfl) ?_
      refine lv_iload_n hx hb dX4_wagonOf_37 rfl (lv_at hl 2 rfl) ?_
      obtain ⟨r6, er6, hF⟩ := bR_some hF
      refine gc_Vi (As := [.int p1, .int p2]) hS9 (tyc_L_get l D ad cA _ σ1 p1 p2 r6 er6) (cwV 2 hts gX4_wagonOf_X1_get rfl rfl rfl hd_X1_get ⟨by decide, by decide⟩) hK hP hD hS hA hNN (ci := 1) (q0 := 4) (N := 9) rfl (wC_4 ad cA σ1) rfl hl.1 rfl (Nat.le_of_ble_eq_true rfl) dX4_wagonOf_38 (fun H locs hP hD hS => ?_)
      exact g_iretX hx hb hr rfl hlocks hP hK hD hS dX4_wagonOf_41 hF
    · have hF := iteF hF c_5
      exact gx_throwSW (own := RX4) (cls := "java/lang/IndexOutOfBoundsException") (text := "the booking has no such wagon") (k := 2) hx hb hl9 hown rfl (by decide +kernel) hw0 hw1 (fun w h => hts w (List.mem_cons_of_mem _ (List.mem_append_right _ h))) gnoX4_265 ggdX4_261_265 hOK (List.mem_of_getElem? (i := 17) rfl) (by rw [hml]; exact hl.1) ht9 hlocks hP hK hD hS dX4_wagonOf_21 dX4_wagonOf_24 dX4_wagonOf_25 dX4_wagonOf_28 dX4_wagonOf_31 ⟨by decide, by decide, by decide, by decide⟩ hF
set_option maxHeartbeats 4000000 in
set_option maxRecDepth 100000 in
theorem tyc_L_lapseTick (l : Launch) (D : va_G) (ad : Nat → Nat) (cA : Nat → ClassId) (sz : Nat) (σ : tyS) (p1 : Int32) (r : Int32) (hF : tyf_L_lapseTick σ p1 = some r) : gMi l yX1_lapseTick wsX1_lapseTick ({ frames := 0, cells := 0, slots := 0, locals := 0 } : Room) D (wC ad cA) (tC cA) [.ref (ad 4), .int p1] sz σ r σ := by
  refine Met.ofW (cc := cX1_lapseTick) (maxL := 2) (ret := (some .int)) (by decide) rfl ?_
  intro p e s m args below meth c s₁ B hml hv
  obtain ⟨rfl, hsz, hP, hK, hD0, hNN⟩ := hv
  have hx := B.exec
  have hb := B.bytes
  have hr := B.returns
  have hts := atoms_spec (ws := wsX1_lapseTick) B.pre
  have hown : s.vm.findClass RX1 = some m.cls := findClass_of_methodNamed B.named
  have hlocks := B.notSynchronized
  subst hsz
  have hD := hD0.self (sz := s.heap.size)
  generalize hAe : va_A (wC ad cA σ) s.heap.size = A at hD ⊢
  have hA : ∀ q : Nat, s.heap.size ≤ q → A q := fun q h => by rw [← hAe]; exact Or.inr h
  clear hAe hD0
  have hS : va_S A s.heap s.heap [] := va_S.rf
  have hl := lv_entry ([.ref (ad 4), .int p1]) (n := 2) (Nat.le_of_ble_eq_true rfl)
  rw [lg_entry_eq]
  generalize (lg_sl ([.ref (ad 4), .int p1]) ++ List.replicate (2 - (lg_sl ([.ref (ad 4), .int p1])).length) Slot.unset).toArray = ls at hl ⊢
  have hl : lv_has ls 2 [(0, .ref (ad 4)), (1, .int p1)] := hl
  have hw0 := hts (.fieldLink RX1 24 "TrunkYards$Ledger" "lapseTicks" "[I") (List.mem_cons_of_mem _ (List.mem_of_getElem? (i := 0) rfl))
  have hiX1 : ∀ w ∈ wsX10, w ∈ wsX1_lapseTick := fun w h => List.mem_cons_of_mem _ (List.mem_append_right _ h)
  unfold tyf_L_lapseTick at hF
  refine lv_aload_n hx hb dX1_lapseTick_0 rfl (lv_at hl 0 rfl) ?_
  refine va_get (D := D) (ci := 1) (v := .ref (ad 17)) (C := RX1) (T := TX1) (N := 9) hx hb hts hiX1 hown hK hP 4 (wC_4 ad cA σ) rfl 4 (by decide) hw0 (fun _ h9 => h9) rfl dX1_lapseTick_1 ?_
  refine lv_iload_n hx hb dX1_lapseTick_4 rfl (lv_at hl 1 rfl) ?_
  obtain ⟨hb_1, hF⟩ := chk_some hF
  refine va_iald hx hb hK hP 17 11 (wC_17 ad cA σ) (tC_17 cA) hb_1 dX1_lapseTick_5 ?_
  exact g_iretR hx hb hr rfl hlocks hP hK hD hS dX1_lapseTick_6 hF
set_option maxHeartbeats 4000000 in
set_option maxRecDepth 100000 in
theorem tyc_T_lapses (l : Launch) (D : va_G) (ad : Nat → Nat) (cA : Nat → ClassId) (sz : Nat) (σ : tyS) (p1 : Int32) (res : tyX) (hl9 : l.stackTraces = false) (hF : tyf_T_lapses σ p1 = some res) : gXi gStr l yX4_lapses wsX4_lapses ({ frames := 7, cells := 1, slots := 6, locals := 103 } : Room) D (wC ad cA) (tC cA) [.ref (ad 0), .int p1] sz σ res := by
  refine ty_ofW (cc := cX4_lapses) (maxL := 2) (ret := (some .int)) (by decide) rfl ?_
  intro p e s m args below meth c s₁ B hml ht9 hv
  obtain ⟨rfl, ⟨hsz, hP, hK, hD0, hNN⟩, hOK⟩ := hv
  have hx := B.exec
  have hb := B.bytes
  have hr := B.returns
  have hts := atoms_spec (ws := wsX4_lapses) B.pre
  have hown : s.vm.findClass RX4 = some m.cls := findClass_of_methodNamed B.named
  have hlocks := B.notSynchronized
  subst hsz
  have hD := hD0.self (sz := s.heap.size)
  generalize hAe : va_A (wC ad cA σ) s.heap.size = A at hD hOK ⊢
  have hA : ∀ q : Nat, s.heap.size ≤ q → A q := fun q h => by rw [← hAe]; exact Or.inr h
  clear hAe hD0
  have hS : va_S A s.heap s.heap [] := va_S.rf
  have hl := lv_entry ([.ref (ad 0), .int p1]) (n := 2) (Nat.le_of_ble_eq_true rfl)
  rw [lg_entry_eq]
  generalize (lg_sl ([.ref (ad 0), .int p1]) ++ List.replicate (2 - (lg_sl ([.ref (ad 0), .int p1])).length) Slot.unset).toArray = ls at hl ⊢
  have hl : lv_has ls 2 [(0, .ref (ad 0)), (1, .int p1)] := hl
  have hS9 : CallFix p m c cX4_lapses 2 s _ wsX4_lapses RX4 := ⟨hx, hb, hml, hown, hts⟩
  have hw0 := hts (.fieldLink RX4 29 "TrunkYards" "ledger" "LTrunkYards$Ledger;") (List.mem_cons_of_mem _ (List.mem_of_getElem? (i := 2) rfl))
  have hiX4 : ∀ w ∈ wsX40, w ∈ wsX4_lapses := fun w h => List.mem_cons_of_mem _ (List.mem_append_left _ (List.mem_append_left _ (List.mem_append_left _ (List.mem_append_right _ h))))
  have hw2 := hts (.fieldLink RX4 246 "TrunkYards" "now" "I") (List.mem_cons_of_mem _ (List.mem_of_getElem? (i := 3) rfl))
  have hw3 := hts (.classLink RX4 73 "java/lang/IllegalStateException") (List.mem_cons_of_mem _ (List.mem_of_getElem? (i := 0) rfl))
  have hw4 := hts (.initialized "java/lang/IllegalStateException") (List.mem_cons_of_mem _ (List.mem_of_getElem? (i := 1) rfl))
  unfold tyf_T_lapses at hF
  refine lv_aload_n hx hb dX4_lapses_0 rfl (lv_at hl 0 rfl) ?_
  refine lv_iload_n hx hb dX4_lapses_1 rfl (lv_at hl 1 rfl) ?_
  rcases bX_some hF with ⟨kr2, r2, σ1, er2, hF⟩ | ⟨r2, σ1, er2, hF⟩
  · exact gx_T (gx_runV (As := [.int p1]) (Qc := gQXv D (wC ad cA) (tC cA) _ _) hS9 (tyc_T_requireBooking l D ad cA _ σ p1 _ hl9 er2) (cwV 1 hts gX4_lapses_X4_requireBooking rfl rfl rfl hd_X4_requireBooking ⟨by decide, by decide⟩) hOK hK hP hD hS hA hNN (ci := 4) (q0 := 0) (N := 12) rfl (wC_0 ad cA σ) rfl hl.1 rfl (Nat.le_of_ble_eq_true rfl) dX4_lapses_2 ⟨by decide, by decide⟩) (gx_nov rfl) rfl hF ht9 hlocks hK hD hS hA
  refine gx_Rv (rest2 := (.ref (ad 0) :: [.int p1])) (gx_runV (As := [.int p1]) (Qc := gQXv D (wC ad cA) (tC cA) _ _) hS9 (tyc_T_requireBooking l D ad cA _ σ p1 _ hl9 er2) (cwV 1 hts gX4_lapses_X4_requireBooking rfl rfl rfl hd_X4_requireBooking ⟨by decide, by decide⟩) hOK hK hP hD hS hA hNN (ci := 4) (q0 := 0) (N := 12) rfl (wC_0 ad cA σ) rfl hl.1 rfl (Nat.le_of_ble_eq_true rfl) dX4_lapses_2 ⟨by decide, by decide⟩) rfl hK hD hS hA (fun H locs hP hD hS => ?_)
  refine lv_aload_n hx hb dX4_lapses_5 rfl (lv_at hl 0 rfl) ?_
  refine va_get (D := D) (ci := 4) (v := .ref (ad 4)) (C := RX4) (T := TX4) (N := 12) hx hb hts hiX4 hown hK hP 0 (wC_0 ad cA σ1) rfl 3 (by decide) hw0 (fun _ h9 => h9) rfl dX4_lapses_6 ?_
  refine lv_iload_n hx hb dX4_lapses_9 rfl (lv_at hl 1 rfl) ?_
  obtain ⟨r3, er3, hF⟩ := bR_some hF
  refine gc_Vi (As := [.int p1]) hS9 (tyc_L_standing l D ad cA _ σ1 p1 r3 er3) (cwV 1 hts gX4_lapses_X1_standing rfl rfl rfl hd_X1_standing ⟨by decide, by decide⟩) hK hP hD hS hA hNN (ci := 1) (q0 := 4) (N := 9) rfl (wC_4 ad cA σ1) rfl hl.1 rfl (Nat.le_of_ble_eq_true rfl) dX4_lapses_10 (fun H locs hP hD hS => ?_)
  refine lv_iconst (v := 1) hx hb dX4_lapses_13 (by decide) ?_
  refine lv_icmp_eq (tgt := 28) hx hb dX4_lapses_14 (by decide) (fun c_4 => ?_) (fun c_4 => ?_)
  · have hF := iteT hF c_4
    refine lv_aload_n hx hb dX4_lapses_28 rfl (lv_at hl 0 rfl) ?_
    refine va_get (D := D) (ci := 4) (v := .ref (ad 4)) (C := RX4) (T := TX4) (N := 12) hx hb hts hiX4 hown hK hP 0 (wC_0 ad cA σ1) rfl 3 (by decide) hw0 (fun _ h9 => h9) rfl dX4_lapses_29 ?_
    refine lv_iload_n hx hb dX4_lapses_32 rfl (lv_at hl 1 rfl) ?_
    obtain ⟨r5, er5, hF⟩ := bR_some hF
    refine gc_Vi (As := [.int p1]) hS9 (tyc_L_lapseTick l D ad cA _ σ1 p1 r5 er5) (cwV 1 hts gX4_lapses_X1_lapseTick rfl rfl rfl hd_X1_lapseTick ⟨by decide, by decide⟩) hK hP hD hS hA hNN (ci := 1) (q0 := 4) (N := 9) rfl (wC_4 ad cA σ1) rfl hl.1 rfl (Nat.le_of_ble_eq_true rfl) dX4_lapses_33 (fun H locs hP hD hS => ?_)
    refine lv_aload_n hx hb dX4_lapses_36 rfl (lv_at hl 0 rfl) ?_
    refine va_get (D := D) (ci := 4) (v := .int (σ1.2 3)) (C := RX4) (T := TX4) (N := 12) hx hb hts hiX4 hown hK hP 0 (wC_0 ad cA σ1) rfl 11 (by decide) hw2 (fun _ h9 => h9) rfl dX4_lapses_37 ?_
    refine lv_isub hx hb dX4_lapses_40 ?_
    exact g_iretX hx hb hr rfl hlocks hP hK hD hS dX4_lapses_41 hF
  · have hF := iteF hF c_4
    exact gx_throwSW (own := RX4) (cls := "java/lang/IllegalStateException") (text := "the booking is not half") (k := 1) hx hb hl9 hown rfl (by decide +kernel) hw3 hw4 (fun w h => hts w (List.mem_cons_of_mem _ (List.mem_append_left _ (List.mem_append_right _ h)))) gnoX4_77 ggdX4_73_77 hOK (List.mem_of_getElem? (i := 18) rfl) (by rw [hml]; exact hl.1) ht9 hlocks hP hK hD hS dX4_lapses_17 dX4_lapses_20 dX4_lapses_21 dX4_lapses_24 dX4_lapses_27 ⟨by decide, by decide, by decide, by decide⟩ hF
set_option maxHeartbeats 4000000 in
set_option maxRecDepth 100000 in
theorem tyc_T_standsWhole (l : Launch) (D : va_G) (ad : Nat → Nat) (cA : Nat → ClassId) (sz : Nat) (σ : tyS) (p1 : Int32) (p2 : Int32) (r : Int32) (hF : tyf_T_standsWhole σ p1 p2 = some r) : gMi l yX4_standsWhole wsX4_standsWhole ({ frames := 1, cells := 0, slots := 0, locals := 22 } : Room) D (wC ad cA) (tC cA) [.ref (ad 0), .int p1, .int p2] sz σ r σ := by
  refine Met.ofW (cc := cX4_standsWhole) (maxL := 5) (ret := (some .boolean)) (by decide) rfl ?_
  intro p e s m args below meth c s₁ B hml hv
  obtain ⟨rfl, hsz, hP, hK, hD0, hNN⟩ := hv
  have hx := B.exec
  have hb := B.bytes
  have hr := B.returns
  have hts := atoms_spec (ws := wsX4_standsWhole) B.pre
  have hown : s.vm.findClass RX4 = some m.cls := findClass_of_methodNamed B.named
  have hlocks := B.notSynchronized
  subst hsz
  have hD := hD0.self (sz := s.heap.size)
  generalize hAe : va_A (wC ad cA σ) s.heap.size = A at hD ⊢
  have hA : ∀ q : Nat, s.heap.size ≤ q → A q := fun q h => by rw [← hAe]; exact Or.inr h
  clear hAe hD0
  have hS : va_S A s.heap s.heap [] := va_S.rf
  have hl := lv_entry ([.ref (ad 0), .int p1, .int p2]) (n := 5) (Nat.le_of_ble_eq_true rfl)
  rw [lg_entry_eq]
  generalize (lg_sl ([.ref (ad 0), .int p1, .int p2]) ++ List.replicate (5 - (lg_sl ([.ref (ad 0), .int p1, .int p2])).length) Slot.unset).toArray = ls at hl ⊢
  have hl : lv_has ls 5 [(0, .ref (ad 0)), (1, .int p1), (2, .int p2)] := hl
  have hS9 : CallFix p m c cX4_standsWhole 5 s _ wsX4_standsWhole RX4 := ⟨hx, hb, hml, hown, hts⟩
  have hw0 := hts (.fieldLink RX4 12 "TrunkYards" "rows" "LTrunkYards$Rows;") (List.mem_cons_of_mem _ (List.mem_of_getElem? (i := 0) rfl))
  have hiX4 : ∀ w ∈ wsX40, w ∈ wsX4_standsWhole := fun w h => List.mem_cons_of_mem _ (List.mem_append_left _ (List.mem_append_left _ (List.mem_append_right _ h)))
  have hw2 := hts (.fieldLink RX4 29 "TrunkYards" "ledger" "LTrunkYards$Ledger;") (List.mem_cons_of_mem _ (List.mem_of_getElem? (i := 1) rfl))
  unfold tyf_T_standsWhole at hF
  refine lv_iconst (v := 0) hx hb dX4_standsWhole_0 (by decide) ?_
  refine lv_istore_n (lv' := [(3, .int 0), (0, .ref (ad 0)), (1, .int p1), (2, .int p2)]) hx hb dX4_standsWhole_1 rfl hl (by decide) rfl (fun ls hl => ?_)
  refine lv_iconst (v := 0) hx hb dX4_standsWhole_2 (by decide) ?_
  refine lv_istore (lv' := [(4, .int 0), (3, .int 0), (0, .ref (ad 0)), (1, .int p1), (2, .int p2)]) hx hb dX4_standsWhole_3 hl (by decide) rfl (fun ls hl => ?_)
  have lp5 : ∀ (k : Int32 → Int32 → Int32 → Int32 → Option Int32), (∀ (x1 : Int32) (x2 : Int32) (x3 : Int32) (x4 : Int32) , k x1 x2 x3 x4 = some r → ∀ (H : Heap) (locs : List Loc) (ls : Array Slot), va_P D vwCl (wC ad cA σ) H → va_D A (wC ad cA σ) → va_S A s.heap H locs → lv_has ls 5 [(0, .ref (ad 0)), (1, .int x1), (2, .int x2), (3, .int x3), (4, .int x4)] → W p l e (headSpec wsX4_standsWhole ({ frames := 1, cells := 0, slots := 0, locals := 22 } : Room)).room s m #[.ref (ad 0), .int p1, .int p2] below meth c H locs 0 0 (MQ below (gQi D (wC ad cA) (tC cA) A r σ) #[.ref (ad 0), .int p1, .int p2] s 0 0 A) (F0 m 48 ls [])) → ∀ (n : Nat), ∀ (x1 : Int32) (x2 : Int32) (x3 : Int32) (x4 : Int32) , tyl_T_standsWhole_5 σ k n x1 x2 x3 x4 = some r → ∀ (H : Heap) (locs : List Loc) (ls : Array Slot), va_P D vwCl (wC ad cA σ) H → va_D A (wC ad cA σ) → va_S A s.heap H locs → lv_has ls 5 [(0, .ref (ad 0)), (1, .int x1), (2, .int x2), (3, .int x3), (4, .int x4)] → W p l e (headSpec wsX4_standsWhole ({ frames := 1, cells := 0, slots := 0, locals := 22 } : Room)).room s m #[.ref (ad 0), .int p1, .int p2] below meth c H locs 0 0 (MQ below (gQi D (wC ad cA) (tC cA) A r σ) #[.ref (ad 0), .int p1, .int p2] s 0 0 A) (F0 m 5 ls []) := by
    intro k hk n
    induction n with
    | zero =>
      intro x1 x2 x3 x4 hF
      exact absurd hF (fun h => nomatch h)
    | succ n ih =>
      intro x1 x2 x3 x4 hF H locs ls hP hD hS hl
      have hF : tyb_T_standsWhole_5 σ k (tyl_T_standsWhole_5 σ k n) x1 x2 x3 x4 = some r := hF
      unfold tyb_T_standsWhole_5 at hF
      refine lv_iload hx hb dX4_standsWhole_5 (lv_at hl 4 rfl) ?_
      refine lv_aload_n hx hb dX4_standsWhole_7 rfl (lv_at hl 0 rfl) ?_
      refine va_get (D := D) (ci := 4) (v := .ref (ad 1)) (C := RX4) (T := TX4) (N := 12) hx hb hts hiX4 hown hK hP 0 (wC_0 ad cA σ) rfl 0 (by decide) hw0 (fun _ h9 => h9) rfl dX4_standsWhole_8 ?_
      refine lv_iload_n hx hb dX4_standsWhole_11 rfl (lv_at hl 2 rfl) ?_
      obtain ⟨r1, er1, hF⟩ := bR_some hF
      refine gc_Vi (As := [.int x2]) hS9 (tyc_R1_count l D ad cA _ σ x2 r1 er1) (cwV 1 hts gX4_standsWhole_X2_count rfl rfl rfl hd_X2_count ⟨by decide, by decide⟩) hK hP hD hS hA hNN (ci := 2) (q0 := 1) (N := 2) rfl (wC_1 ad cA σ) rfl hl.1 rfl (Nat.le_of_ble_eq_true rfl) dX4_standsWhole_12 (fun H locs hP hD hS => ?_)
      refine lv_icmp_ge (tgt := 48) hx hb dX4_standsWhole_15 (by decide) (fun c_2 => ?_) (fun c_2 => ?_)
      · have hF := iteT hF c_2
        exact hk  x1 x2 x3 x4 hF _ _ _ hP hD hS (lv_sub hl [0, 1, 2, 3, 4] rfl)
      · have hF := iteF hF c_2
        refine lv_aload_n hx hb dX4_standsWhole_18 rfl (lv_at hl 0 rfl) ?_
        refine va_get (D := D) (ci := 4) (v := .ref (ad 4)) (C := RX4) (T := TX4) (N := 12) hx hb hts hiX4 hown hK hP 0 (wC_0 ad cA σ) rfl 3 (by decide) hw2 (fun _ h9 => h9) rfl dX4_standsWhole_19 ?_
        refine lv_aload_n hx hb dX4_standsWhole_22 rfl (lv_at hl 0 rfl) ?_
        refine va_get (D := D) (ci := 4) (v := .ref (ad 1)) (C := RX4) (T := TX4) (N := 12) hx hb hts hiX4 hown hK hP 0 (wC_0 ad cA σ) rfl 0 (by decide) hw0 (fun _ h9 => h9) rfl dX4_standsWhole_23 ?_
        refine lv_iload_n hx hb dX4_standsWhole_26 rfl (lv_at hl 2 rfl) ?_
        refine lv_iload hx hb dX4_standsWhole_27 (lv_at hl 4 rfl) ?_
        obtain ⟨r3, er3, hF⟩ := bR_some hF
        refine gc_Vi (As := [.int x2, .int x4]) hS9 (tyc_R1_get l D ad cA _ σ x2 x4 r3 er3) (cwV 2 hts gX4_standsWhole_X2_get rfl rfl rfl hd_X2_get ⟨by decide, by decide⟩) hK hP hD hS hA hNN (ci := 2) (q0 := 1) (N := 2) rfl (wC_1 ad cA σ) rfl hl.1 rfl (Nat.le_of_ble_eq_true rfl) dX4_standsWhole_29 (fun H locs hP hD hS => ?_)
        obtain ⟨r4, er4, hF⟩ := bR_some hF
        refine gc_Vi (As := [.int r3]) hS9 (tyc_L_bookingFor l D ad cA _ σ r3 r4 er4) (cwV 1 hts gX4_standsWhole_X1_bookingFor rfl rfl rfl hd_X1_bookingFor ⟨by decide, by decide⟩) hK hP hD hS hA hNN (ci := 1) (q0 := 4) (N := 9) rfl (wC_4 ad cA σ) rfl hl.1 rfl (Nat.le_of_ble_eq_true rfl) dX4_standsWhole_32 (fun H locs hP hD hS => ?_)
        refine lv_iload_n hx hb dX4_standsWhole_35 rfl (lv_at hl 1 rfl) ?_
        refine lv_icmp_ne (tgt := 42) hx hb dX4_standsWhole_36 (by decide) (fun c_5 => ?_) (fun c_5 => ?_)
        · have hF := iteF hF c_5
          refine lv_iinc (v := (x4 + 1)) (lv' := [(4, .int (x4 + 1)), (0, .ref (ad 0)), (1, .int x1), (2, .int x2), (3, .int x3)]) hx hb dX4_standsWhole_42 hl (k := 4) rfl rfl (by decide) rfl (fun ls hl => ?_)
          refine lv_goto (tgt := 5) hx hb dX4_standsWhole_45 (by decide) ?_
          exact ih  x1 x2 x3 (x4 + 1) hF _ _ _ hP hD hS (lv_sub hl [1, 2, 3, 4, 0] rfl)
        · have hF := iteT hF c_5
          refine lv_iinc (v := (x3 + 1)) (lv' := [(3, .int (x3 + 1)), (0, .ref (ad 0)), (1, .int x1), (2, .int x2), (4, .int x4)]) hx hb dX4_standsWhole_39 hl (k := 3) rfl rfl (by decide) rfl (fun ls hl => ?_)
          refine lv_iinc (v := (x4 + 1)) (lv' := [(4, .int (x4 + 1)), (3, .int (x3 + 1)), (0, .ref (ad 0)), (1, .int x1), (2, .int x2)]) hx hb dX4_standsWhole_42 hl (k := 4) rfl rfl (by decide) rfl (fun ls hl => ?_)
          refine lv_goto (tgt := 5) hx hb dX4_standsWhole_45 (by decide) ?_
          exact ih  x1 x2 (x3 + 1) (x4 + 1) hF _ _ _ hP hD hS (lv_sub hl [2, 3, 4, 1, 0] rfl)
  refine lp5 _ ?_ 64  p1 p2 0 0 hF _ _ _ hP hD hS (lv_sub hl [2, 3, 4, 1, 0] rfl)
  intro x1 x2 x3 x4 hF H locs ls hP hD hS hl
  refine lv_iload_n hx hb dX4_standsWhole_48 rfl (lv_at hl 3 rfl) ?_
  refine lv_aload_n hx hb dX4_standsWhole_49 rfl (lv_at hl 0 rfl) ?_
  refine va_get (D := D) (ci := 4) (v := .ref (ad 4)) (C := RX4) (T := TX4) (N := 12) hx hb hts hiX4 hown hK hP 0 (wC_0 ad cA σ) rfl 3 (by decide) hw2 (fun _ h9 => h9) rfl dX4_standsWhole_50 ?_
  refine lv_iload_n hx hb dX4_standsWhole_53 rfl (lv_at hl 1 rfl) ?_
  obtain ⟨r6, er6, hF⟩ := bR_some hF
  refine gc_Vi (As := [.int x1]) hS9 (tyc_L_size l D ad cA _ σ x1 r6 er6) (cwV 1 hts gX4_standsWhole_X1_size rfl rfl rfl hd_X1_size ⟨by decide, by decide⟩) hK hP hD hS hA hNN (ci := 1) (q0 := 4) (N := 9) rfl (wC_4 ad cA σ) rfl hl.1 rfl (Nat.le_of_ble_eq_true rfl) dX4_standsWhole_54 (fun H locs hP hD hS => ?_)
  refine lv_icmp_ne (tgt := 64) hx hb dX4_standsWhole_57 (by decide) (fun c_7 => ?_) (fun c_7 => ?_)
  · have hF := iteF hF c_7
    refine lv_iconst (v := 0) hx hb dX4_standsWhole_64 (by decide) ?_
    exact g_iretR hx hb hr rfl hlocks hP hK hD hS dX4_standsWhole_65 hF
  · have hF := iteT hF c_7
    refine lv_iconst (v := 1) hx hb dX4_standsWhole_60 (by decide) ?_
    refine lv_goto (tgt := 65) hx hb dX4_standsWhole_61 (by decide) ?_
    exact g_iretR hx hb hr rfl hlocks hP hK hD hS dX4_standsWhole_65 hF
set_option maxHeartbeats 4000000 in
set_option maxRecDepth 100000 in
theorem tyc_T_canDepart (l : Launch) (D : va_G) (ad : Nat → Nat) (cA : Nat → ClassId) (sz : Nat) (σ : tyS) (p1 : Int32) (r : Int32) (hF : tyf_T_canDepart σ p1 = some r) : gMi l yX4_canDepart wsX4_canDepart ({ frames := 2, cells := 0, slots := 0, locals := 46 } : Room) D (wC ad cA) (tC cA) [.ref (ad 0), .int p1] sz σ r σ := by
  refine Met.ofW (cc := cX4_canDepart) (maxL := 5) (ret := (some .boolean)) (by decide) rfl ?_
  intro p e s m args below meth c s₁ B hml hv
  obtain ⟨rfl, hsz, hP, hK, hD0, hNN⟩ := hv
  have hx := B.exec
  have hb := B.bytes
  have hr := B.returns
  have hts := atoms_spec (ws := wsX4_canDepart) B.pre
  have hown : s.vm.findClass RX4 = some m.cls := findClass_of_methodNamed B.named
  have hlocks := B.notSynchronized
  subst hsz
  have hD := hD0.self (sz := s.heap.size)
  generalize hAe : va_A (wC ad cA σ) s.heap.size = A at hD ⊢
  have hA : ∀ q : Nat, s.heap.size ≤ q → A q := fun q h => by rw [← hAe]; exact Or.inr h
  clear hAe hD0
  have hS : va_S A s.heap s.heap [] := va_S.rf
  have hl := lv_entry ([.ref (ad 0), .int p1]) (n := 5) (Nat.le_of_ble_eq_true rfl)
  rw [lg_entry_eq]
  generalize (lg_sl ([.ref (ad 0), .int p1]) ++ List.replicate (5 - (lg_sl ([.ref (ad 0), .int p1])).length) Slot.unset).toArray = ls at hl ⊢
  have hl : lv_has ls 5 [(0, .ref (ad 0)), (1, .int p1)] := hl
  have hS9 : CallFix p m c cX4_canDepart 5 s _ wsX4_canDepart RX4 := ⟨hx, hb, hml, hown, hts⟩
  have hw0 := hts (.fieldLink RX4 12 "TrunkYards" "rows" "LTrunkYards$Rows;") (List.mem_cons_of_mem _ (List.mem_of_getElem? (i := 0) rfl))
  have hiX4 : ∀ w ∈ wsX40, w ∈ wsX4_canDepart := fun w h => List.mem_cons_of_mem _ (List.mem_append_left _ (List.mem_append_left _ (List.mem_append_right _ h)))
  have hw2 := hts (.fieldLink RX4 29 "TrunkYards" "ledger" "LTrunkYards$Ledger;") (List.mem_cons_of_mem _ (List.mem_of_getElem? (i := 1) rfl))
  unfold tyf_T_canDepart at hF
  refine lv_aload_n hx hb dX4_canDepart_0 rfl (lv_at hl 0 rfl) ?_
  refine va_get (D := D) (ci := 4) (v := .ref (ad 1)) (C := RX4) (T := TX4) (N := 12) hx hb hts hiX4 hown hK hP 0 (wC_0 ad cA σ) rfl 0 (by decide) hw0 (fun _ h9 => h9) rfl dX4_canDepart_1 ?_
  refine lv_iload_n hx hb dX4_canDepart_4 rfl (lv_at hl 1 rfl) ?_
  obtain ⟨r1, er1, hF⟩ := bR_some hF
  refine gc_Vi (As := [.int p1]) hS9 (tyc_R1_count l D ad cA _ σ p1 r1 er1) (cwV 1 hts gX4_canDepart_X2_count rfl rfl rfl hd_X2_count ⟨by decide, by decide⟩) hK hP hD hS hA hNN (ci := 2) (q0 := 1) (N := 2) rfl (wC_1 ad cA σ) rfl hl.1 rfl (Nat.le_of_ble_eq_true rfl) dX4_canDepart_5 (fun H locs hP hD hS => ?_)
  refine lv_istore_n (lv' := [(2, .int r1), (0, .ref (ad 0)), (1, .int p1)]) hx hb dX4_canDepart_8 rfl hl (by decide) rfl (fun ls hl => ?_)
  refine lv_iconst (v := 0) hx hb dX4_canDepart_9 (by decide) ?_
  refine lv_istore_n (lv' := [(3, .int 0), (2, .int r1), (0, .ref (ad 0)), (1, .int p1)]) hx hb dX4_canDepart_10 rfl hl (by decide) rfl (fun ls hl => ?_)
  have lp11 : ∀ (k : Int32 → Int32 → Int32 → Option Int32), (∀ (x1 : Int32) (x2 : Int32) (x3 : Int32) , k x1 x2 x3 = some r → ∀ (H : Heap) (locs : List Loc) (ls : Array Slot), va_P D vwCl (wC ad cA σ) H → va_D A (wC ad cA σ) → va_S A s.heap H locs → lv_has ls 5 [(0, .ref (ad 0)), (1, .int x1), (2, .int x2), (3, .int x3)] → W p l e (headSpec wsX4_canDepart ({ frames := 2, cells := 0, slots := 0, locals := 46 } : Room)).room s m #[.ref (ad 0), .int p1] below meth c H locs 0 0 (MQ below (gQi D (wC ad cA) (tC cA) A r σ) #[.ref (ad 0), .int p1] s 0 0 A) (F0 m 71 ls [])) → ∀ (n : Nat), ∀ (x1 : Int32) (x2 : Int32) (x3 : Int32) , tyl_T_canDepart_11 σ k n x1 x2 x3 = some r → ∀ (H : Heap) (locs : List Loc) (ls : Array Slot), va_P D vwCl (wC ad cA σ) H → va_D A (wC ad cA σ) → va_S A s.heap H locs → lv_has ls 5 [(0, .ref (ad 0)), (1, .int x1), (2, .int x2), (3, .int x3)] → W p l e (headSpec wsX4_canDepart ({ frames := 2, cells := 0, slots := 0, locals := 46 } : Room)).room s m #[.ref (ad 0), .int p1] below meth c H locs 0 0 (MQ below (gQi D (wC ad cA) (tC cA) A r σ) #[.ref (ad 0), .int p1] s 0 0 A) (F0 m 11 ls []) := by
    intro k hk n
    induction n with
    | zero =>
      intro x1 x2 x3 hF
      exact absurd hF (fun h => nomatch h)
    | succ n ih =>
      intro x1 x2 x3 hF H locs ls hP hD hS hl
      have hF : tyb_T_canDepart_11 σ k (tyl_T_canDepart_11 σ k n) x1 x2 x3 = some r := hF
      unfold tyb_T_canDepart_11 at hF
      refine lv_iload_n hx hb dX4_canDepart_11 rfl (lv_at hl 3 rfl) ?_
      refine lv_iload_n hx hb dX4_canDepart_12 rfl (lv_at hl 2 rfl) ?_
      refine lv_icmp_ge (tgt := 71) hx hb dX4_canDepart_13 (by decide) (fun c_2 => ?_) (fun c_2 => ?_)
      · have hF := iteT hF c_2
        exact hk  x1 x2 x3 hF _ _ _ hP hD hS (lv_sub hl [0, 1, 2, 3] rfl)
      · have hF := iteF hF c_2
        refine lv_aload_n hx hb dX4_canDepart_16 rfl (lv_at hl 0 rfl) ?_
        refine va_get (D := D) (ci := 4) (v := .ref (ad 4)) (C := RX4) (T := TX4) (N := 12) hx hb hts hiX4 hown hK hP 0 (wC_0 ad cA σ) rfl 3 (by decide) hw2 (fun _ h9 => h9) rfl dX4_canDepart_17 ?_
        refine lv_aload_n hx hb dX4_canDepart_20 rfl (lv_at hl 0 rfl) ?_
        refine va_get (D := D) (ci := 4) (v := .ref (ad 1)) (C := RX4) (T := TX4) (N := 12) hx hb hts hiX4 hown hK hP 0 (wC_0 ad cA σ) rfl 0 (by decide) hw0 (fun _ h9 => h9) rfl dX4_canDepart_21 ?_
        refine lv_iload_n hx hb dX4_canDepart_24 rfl (lv_at hl 1 rfl) ?_
        refine lv_iload_n hx hb dX4_canDepart_25 rfl (lv_at hl 3 rfl) ?_
        obtain ⟨r3, er3, hF⟩ := bR_some hF
        refine gc_Vi (As := [.int x1, .int x3]) hS9 (tyc_R1_get l D ad cA _ σ x1 x3 r3 er3) (cwV 2 hts gX4_canDepart_X2_get rfl rfl rfl hd_X2_get ⟨by decide, by decide⟩) hK hP hD hS hA hNN (ci := 2) (q0 := 1) (N := 2) rfl (wC_1 ad cA σ) rfl hl.1 rfl (Nat.le_of_ble_eq_true rfl) dX4_canDepart_26 (fun H locs hP hD hS => ?_)
        obtain ⟨r4, er4, hF⟩ := bR_some hF
        refine gc_Vi (As := [.int r3]) hS9 (tyc_L_bookingFor l D ad cA _ σ r3 r4 er4) (cwV 1 hts gX4_canDepart_X1_bookingFor rfl rfl rfl hd_X1_bookingFor ⟨by decide, by decide⟩) hK hP hD hS hA hNN (ci := 1) (q0 := 4) (N := 9) rfl (wC_4 ad cA σ) rfl hl.1 rfl (Nat.le_of_ble_eq_true rfl) dX4_canDepart_29 (fun H locs hP hD hS => ?_)
        refine lv_istore (lv' := [(4, .int r4), (0, .ref (ad 0)), (1, .int x1), (2, .int x2), (3, .int x3)]) hx hb dX4_canDepart_32 hl (by decide) rfl (fun ls hl => ?_)
        refine lv_iload hx hb dX4_canDepart_34 (lv_at hl 0 rfl) ?_
        refine lv_iconst (v := (-1)) hx hb dX4_canDepart_36 (by decide) ?_
        refine lv_icmp_eq (tgt := 63) hx hb dX4_canDepart_37 (by decide) (fun c_5 => ?_) (fun c_5 => ?_)
        · have hF := iteT hF c_5
          refine lv_iconst (v := 0) hx hb dX4_canDepart_63 (by decide) ?_
          exact g_iretR hx hb hr rfl hlocks hP hK hD hS dX4_canDepart_64 hF
        · have hF := iteF hF c_5
          refine lv_aload_n hx hb dX4_canDepart_40 rfl (lv_at hl 1 rfl) ?_
          refine va_get (D := D) (ci := 4) (v := .ref (ad 4)) (C := RX4) (T := TX4) (N := 12) hx hb hts hiX4 hown hK hP 0 (wC_0 ad cA σ) rfl 3 (by decide) hw2 (fun _ h9 => h9) rfl dX4_canDepart_41 ?_
          refine lv_iload hx hb dX4_canDepart_44 (lv_at hl 0 rfl) ?_
          obtain ⟨r6, er6, hF⟩ := bR_some hF
          refine gc_Vi (As := [.int r4]) hS9 (tyc_L_standing l D ad cA _ σ r4 r6 er6) (cwV 1 hts gX4_canDepart_X1_standing rfl rfl rfl hd_X1_standing ⟨by decide, by decide⟩) hK hP hD hS hA hNN (ci := 1) (q0 := 4) (N := 9) rfl (wC_4 ad cA σ) rfl hl.1 rfl (Nat.le_of_ble_eq_true rfl) dX4_canDepart_46 (fun H locs hP hD hS => ?_)
          refine lv_iconst (v := 2) hx hb dX4_canDepart_49 (by decide) ?_
          refine lv_icmp_ne (tgt := 63) hx hb dX4_canDepart_50 (by decide) (fun c_7 => ?_) (fun c_7 => ?_)
          · have hF := iteF hF c_7
            refine lv_iconst (v := 0) hx hb dX4_canDepart_63 (by decide) ?_
            exact g_iretR hx hb hr rfl hlocks hP hK hD hS dX4_canDepart_64 hF
          · have hF := iteT hF c_7
            refine lv_aload_n hx hb dX4_canDepart_53 rfl (lv_at hl 1 rfl) ?_
            refine lv_iload hx hb dX4_canDepart_54 (lv_at hl 0 rfl) ?_
            refine lv_iload_n hx hb dX4_canDepart_56 rfl (lv_at hl 2 rfl) ?_
            obtain ⟨r8, er8, hF⟩ := bR_some hF
            refine gc_Vi (As := [.int r4, .int x1]) hS9 (tyc_T_standsWhole l D ad cA _ σ r4 x1 r8 er8) (cwV 2 hts gX4_canDepart_X4_standsWhole rfl rfl rfl hd_X4_standsWhole ⟨by decide, by decide⟩) hK hP hD hS hA hNN (ci := 4) (q0 := 0) (N := 12) rfl (wC_0 ad cA σ) rfl hl.1 rfl (Nat.le_of_ble_eq_true rfl) dX4_canDepart_57 (fun H locs hP hD hS => ?_)
            refine lv_if_ne (tgt := 65) hx hb dX4_canDepart_60 (by decide) (fun c_9 => ?_) (fun c_9 => ?_)
            · have hF := iteF hF c_9
              refine lv_iinc (v := (x3 + 1)) (lv' := [(3, .int (x3 + 1)), (4, .int r4), (0, .ref (ad 0)), (1, .int x1), (2, .int x2)]) hx hb dX4_canDepart_65 hl (k := 4) rfl rfl (by decide) rfl (fun ls hl => ?_)
              refine lv_goto (tgt := 11) hx hb dX4_canDepart_68 (by decide) ?_
              exact ih  x1 x2 (x3 + 1) hF _ _ _ hP hD hS (lv_sub hl [2, 3, 4, 0] rfl)
            · have hF := iteT hF c_9
              refine lv_iconst (v := 0) hx hb dX4_canDepart_63 (by decide) ?_
              exact g_iretR hx hb hr rfl hlocks hP hK hD hS dX4_canDepart_64 hF
  refine lp11 _ ?_ 64  p1 r1 0 hF _ _ _ hP hD hS (lv_sub hl [2, 3, 1, 0] rfl)
  intro x1 x2 x3 hF H locs ls hP hD hS hl
  refine lv_iload_n hx hb dX4_canDepart_71 rfl (lv_at hl 2 rfl) ?_
  refine lv_if_le (tgt := 79) hx hb dX4_canDepart_72 (by decide) (fun c_10 => ?_) (fun c_10 => ?_)
  · have hF := iteT hF c_10
    refine lv_iconst (v := 0) hx hb dX4_canDepart_79 (by decide) ?_
    exact g_iretR hx hb hr rfl hlocks hP hK hD hS dX4_canDepart_80 hF
  · have hF := iteF hF c_10
    refine lv_iconst (v := 1) hx hb dX4_canDepart_75 (by decide) ?_
    refine lv_goto (tgt := 80) hx hb dX4_canDepart_76 (by decide) ?_
    exact g_iretR hx hb hr rfl hlocks hP hK hD hS dX4_canDepart_80 hF
