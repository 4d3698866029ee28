set_option maxHeartbeats 4000000 in
set_option maxRecDepth 100000 in
theorem tyc_T_follow (l : Launch) (D : va_G) (ad : Nat → Nat) (cA : Nat → ClassId) (sz : Nat) (σ : tyS) (p1 : Int32) (p2 : Int32) (res : tyX) (hl9 : l.stackTraces = false) (hF : tyf_T_follow σ p1 p2 = some res) : gXi gStr l yX4_follow wsX4_follow ({ frames := 6, cells := 1, slots := 6, locals := 82 } : Room) D (wC ad cA) (tC cA) [.ref (ad 0), .int p1, .int p2] sz σ res := by
  refine ty_ofW (cc := cX4_follow) (maxL := 4) (ret := (some .boolean)) (by decide) rfl ?_
  intro p e s m args below meth c s₁ B hml ht9 hv
  obtain ⟨rfl, ⟨hsz, hP, hK, hD0, hNN⟩, hOK⟩ := hv
  have hx := B.exec
  have hb := B.bytes
  have hr := B.returns
  have hts := atoms_spec (ws := wsX4_follow) B.pre
  have hown : s.vm.findClass RX4 = some m.cls := findClass_of_methodNamed B.named
  have hlocks := B.notSynchronized
  subst hsz
  have hD := hD0.self (sz := s.heap.size)
  generalize hAe : va_A (wC ad cA σ) s.heap.size = A at hD hOK ⊢
  have hA : ∀ q : Nat, s.heap.size ≤ q → A q := fun q h => by rw [← hAe]; exact Or.inr h
  clear hAe hD0
  have hS : va_S A s.heap s.heap [] := va_S.rf
  have hl := lv_entry ([.ref (ad 0), .int p1, .int p2]) (n := 4) (Nat.le_of_ble_eq_true rfl)
  rw [lg_entry_eq]
  generalize (lg_sl ([.ref (ad 0), .int p1, .int p2]) ++ List.replicate (4 - (lg_sl ([.ref (ad 0), .int p1, .int p2])).length) Slot.unset).toArray = ls at hl ⊢
  have hl : lv_has ls 4 [(0, .ref (ad 0)), (1, .int p1), (2, .int p2)] := hl
  have hS9 : CallFix p m c cX4_follow 4 s _ wsX4_follow RX4 := ⟨hx, hb, hml, hown, hts⟩
  have hw0 := hts (.classLink RX4 86 "java/lang/IllegalArgumentException") (List.mem_cons_of_mem _ (List.mem_of_getElem? (i := 0) rfl))
  have hw1 := hts (.initialized "java/lang/IllegalArgumentException") (List.mem_cons_of_mem _ (List.mem_of_getElem? (i := 1) rfl))
  have hw2 := hts (.fieldLink RX4 50 "TrunkYards" "mayFollow" "[Z") (List.mem_cons_of_mem _ (List.mem_of_getElem? (i := 2) rfl))
  have hiX4 : ∀ w ∈ wsX40, w ∈ wsX4_follow := fun w h => List.mem_cons_of_mem _ (List.mem_append_left _ (List.mem_append_right _ h))
  unfold tyf_T_follow at hF
  refine lv_iload_n hx hb dX4_follow_0 rfl (lv_at hl 1 rfl) ?_
  obtain ⟨r1, er1, hF⟩ := bR_some hF
  refine gc_Si (As := [.int p1]) hS9 (tyc_T_isGrain l D ad cA _ σ p1 r1 er1) (va_cwS 1 hts gX4_follow_X4_isGrain rfl rfl rfl hd_X4_isGrain ⟨by decide, by decide⟩) hK hP hD hS hA hNN rfl hl.1 rfl (Nat.le_of_ble_eq_true rfl) dX4_follow_1 (fun H locs hP hD hS => ?_)
  refine lv_if_eq (tgt := 19) hx hb dX4_follow_4 (by decide) (fun c_2 => ?_) (fun c_2 => ?_)
  · have hF := iteT hF c_2
    exact gx_throwS (own := RX4) (cls := "java/lang/IllegalArgumentException") (text := "a grain is out of range, or both are the same") (k := 0) hx hb hl9 hown rfl (by decide +kernel) hw0 hw1 (fun w h => hts w (List.mem_cons_of_mem _ (List.mem_append_right _ h))) gnoX4_90 ggdX4_86_90 hOK (List.mem_of_getElem? (i := 4) rfl) (by rw [hml]; exact hl.1) ht9 hlocks hP hK hD hS dX4_follow_19 dX4_follow_22 dX4_follow_23 dX4_follow_25 dX4_follow_28 ⟨by decide, by decide, by decide, by decide⟩ hF
  · have hF := iteF hF c_2
    refine lv_iload_n hx hb dX4_follow_7 rfl (lv_at hl 2 rfl) ?_
    obtain ⟨r3, er3, hF⟩ := bR_some hF
    refine gc_Si (As := [.int p2]) hS9 (tyc_T_isGrain l D ad cA _ σ p2 r3 er3) (va_cwS 1 hts gX4_follow_X4_isGrain rfl rfl rfl hd_X4_isGrain ⟨by decide, by decide⟩) hK hP hD hS hA hNN rfl hl.1 rfl (Nat.le_of_ble_eq_true rfl) dX4_follow_8 (fun H locs hP hD hS => ?_)
    refine lv_if_eq (tgt := 19) hx hb dX4_follow_11 (by decide) (fun c_4 => ?_) (fun c_4 => ?_)
    · have hF := iteT hF c_4
      exact gx_throwS (own := RX4) (cls := "java/lang/IllegalArgumentException") (text := "a grain is out of range, or both are the same") (k := 0) hx hb hl9 hown rfl (by decide +kernel) hw0 hw1 (fun w h => hts w (List.mem_cons_of_mem _ (List.mem_append_right _ h))) gnoX4_90 ggdX4_86_90 hOK (List.mem_of_getElem? (i := 4) rfl) (by rw [hml]; exact hl.1) ht9 hlocks hP hK hD hS dX4_follow_19 dX4_follow_22 dX4_follow_23 dX4_follow_25 dX4_follow_28 ⟨by decide, by decide, by decide, by decide⟩ hF
    · have hF := iteF hF c_4
      refine lv_iload_n hx hb dX4_follow_14 rfl (lv_at hl 1 rfl) ?_
      refine lv_iload_n hx hb dX4_follow_15 rfl (lv_at hl 2 rfl) ?_
      refine lv_icmp_ne (tgt := 29) hx hb dX4_follow_16 (by decide) (fun c_5 => ?_) (fun c_5 => ?_)
      · have hF := iteF hF c_5
        refine lv_iload_n hx hb dX4_follow_29 rfl (lv_at hl 1 rfl) ?_
        refine lv_iconst (v := 4) hx hb dX4_follow_30 (by decide) ?_
        refine lv_imul hx hb dX4_follow_31 ?_
        refine lv_iload_n hx hb dX4_follow_32 rfl (lv_at hl 2 rfl) ?_
        refine lv_iadd hx hb dX4_follow_33 ?_
        refine lv_istore_n (lv' := [(3, .int ((p1 * 4) + p2)), (0, .ref (ad 0)), (1, .int p1), (2, .int p2)]) hx hb dX4_follow_34 rfl hl (by decide) rfl (fun ls hl => ?_)
        refine lv_aload_n hx hb dX4_follow_35 rfl (lv_at hl 1 rfl) ?_
        refine va_get (D := D) (ci := 4) (v := .ref (ad 30)) (C := RX4) (T := TX4) (N := 12) hx hb hts hiX4 hown hK hP 0 (wC_0 ad cA σ) rfl 6 (by decide) hw2 (fun _ h9 => h9) rfl dX4_follow_36 ?_
        refine lv_iload_n hx hb dX4_follow_39 rfl (lv_at hl 0 rfl) ?_
        refine lv_aload_n hx hb dX4_follow_40 rfl (lv_at hl 1 rfl) ?_
        refine va_get (D := D) (ci := 4) (v := .ref (ad 30)) (C := RX4) (T := TX4) (N := 12) hx hb hts hiX4 hown hK hP 0 (wC_0 ad cA σ) rfl 6 (by decide) hw2 (fun _ h9 => h9) rfl dX4_follow_41 ?_
        refine lv_iload_n hx hb dX4_follow_44 rfl (lv_at hl 0 rfl) ?_
        obtain ⟨hb_6, hF⟩ := chk_some hF
        refine va_zald hx hb hK hP 30 24 (wC_30 ad cA σ) (tC_30 cA) hb_6 dX4_follow_45 ?_
        refine lv_if_ne (tgt := 53) hx hb dX4_follow_46 (by decide) (fun c_7 => ?_) (fun c_7 => ?_)
        · have hF := iteF hF c_7
          refine lv_iconst (v := 0) hx hb dX4_follow_53 (by decide) ?_
          obtain ⟨hb_8, hF⟩ := chk_some hF
          obtain ⟨σ9, e9, hF⟩ := stp_some hF
          refine gw_zast hx hb hK hP hD hS (wC_30 ad cA σ) (tC_30 cA) (wCs_30 ad cA σ) (by decide) hb_8 dX4_follow_54 e9 (fun H locs hP hD hS => ?_)
          refine lv_aload_n hx hb dX4_follow_55 rfl (lv_at hl 1 rfl) ?_
          refine va_get (D := D) (ci := 4) (v := .ref (ad 30)) (C := RX4) (T := TX4) (N := 12) hx hb hts hiX4 hown hK hP 0 (wC_0 ad cA σ9) rfl 6 (by decide) hw2 (fun _ h9 => h9) rfl dX4_follow_56 ?_
          refine lv_iload_n hx hb dX4_follow_59 rfl (lv_at hl 0 rfl) ?_
          obtain ⟨hb_10, hF⟩ := chk_some hF
          refine va_zald hx hb hK hP 30 24 (wC_30 ad cA σ9) (tC_30 cA) hb_10 dX4_follow_60 ?_
          obtain ⟨hn_11, hF⟩ := chkb_some hF
          have hn_11 := of_decide_eq_true hn_11
          exact g_iretX hx hb hr (congrArg Value.int hn_11) hlocks hP hK hD hS dX4_follow_61 hF
        · have hF := iteT hF c_7
          refine lv_iconst (v := 1) hx hb dX4_follow_49 (by decide) ?_
          refine lv_goto (tgt := 54) hx hb dX4_follow_50 (by decide) ?_
          obtain ⟨hb_12, hF⟩ := chk_some hF
          obtain ⟨σ13, e13, hF⟩ := stp_some hF
          refine gw_zast hx hb hK hP hD hS (wC_30 ad cA σ) (tC_30 cA) (wCs_30 ad cA σ) (by decide) hb_12 dX4_follow_54 e13 (fun H locs hP hD hS => ?_)
          refine lv_aload_n hx hb dX4_follow_55 rfl (lv_at hl 1 rfl) ?_
          refine va_get (D := D) (ci := 4) (v := .ref (ad 30)) (C := RX4) (T := TX4) (N := 12) hx hb hts hiX4 hown hK hP 0 (wC_0 ad cA σ13) rfl 6 (by decide) hw2 (fun _ h9 => h9) rfl dX4_follow_56 ?_
          refine lv_iload_n hx hb dX4_follow_59 rfl (lv_at hl 0 rfl) ?_
          obtain ⟨hb_14, hF⟩ := chk_some hF
          refine va_zald hx hb hK hP 30 24 (wC_30 ad cA σ13) (tC_30 cA) hb_14 dX4_follow_60 ?_
          obtain ⟨hn_15, hF⟩ := chkb_some hF
          have hn_15 := of_decide_eq_true hn_15
          exact g_iretX hx hb hr (congrArg Value.int hn_15) hlocks hP hK hD hS dX4_follow_61 hF
      · have hF := iteT hF c_5
        exact gx_throwS (own := RX4) (cls := "java/lang/IllegalArgumentException") (text := "a grain is out of range, or both are the same") (k := 0) hx hb hl9 hown rfl (by decide +kernel) hw0 hw1 (fun w h => hts w (List.mem_cons_of_mem _ (List.mem_append_right _ h))) gnoX4_90 ggdX4_86_90 hOK (List.mem_of_getElem? (i := 4) rfl) (by rw [hml]; exact hl.1) ht9 hlocks hP hK hD hS dX4_follow_19 dX4_follow_22 dX4_follow_23 dX4_follow_25 dX4_follow_28 ⟨by decide, by decide, by decide, by decide⟩ hF
set_option maxHeartbeats 4000000 in
set_option maxRecDepth 100000 in
theorem tyc_T_on (l : Launch) (D : va_G) (ad : Nat → Nat) (cA : Nat → ClassId) (sz : Nat) (σ : tyS) (p1 : Int32) (p2 : Int32) (res : tyX) (hl9 : l.stackTraces = false) (hF : tyf_T_on σ p1 p2 = some res) : gXi gStr l yX4_on wsX4_on ({ frames := 7, cells := 1, slots := 6, locals := 103 } : Room) D (wC ad cA) (tC cA) [.ref (ad 0), .int p1, .int p2] sz σ res := by
  refine ty_ofW (cc := cX4_on) (maxL := 3) (ret := (some .int)) (by decide) rfl ?_
  intro p e s m args below meth c s₁ B hml ht9 hv
  obtain ⟨rfl, ⟨hsz, hP, hK, hD0, hNN⟩, hOK⟩ := hv
  have hx := B.exec
  have hb := B.bytes
  have hr := B.returns
  have hts := atoms_spec (ws := wsX4_on) B.pre
  have hown : s.vm.findClass RX4 = some m.cls := findClass_of_methodNamed B.named
  have hlocks := B.notSynchronized
  subst hsz
  have hD := hD0.self (sz := s.heap.size)
  generalize hAe : va_A (wC ad cA σ) s.heap.size = A at hD hOK ⊢
  have hA : ∀ q : Nat, s.heap.size ≤ q → A q := fun q h => by rw [← hAe]; exact Or.inr h
  clear hAe hD0
  have hS : va_S A s.heap s.heap [] := va_S.rf
  have hl := lv_entry ([.ref (ad 0), .int p1, .int p2]) (n := 3) (Nat.le_of_ble_eq_true rfl)
  rw [lg_entry_eq]
  generalize (lg_sl ([.ref (ad 0), .int p1, .int p2]) ++ List.replicate (3 - (lg_sl ([.ref (ad 0), .int p1, .int p2])).length) Slot.unset).toArray = ls at hl ⊢
  have hl : lv_has ls 3 [(0, .ref (ad 0)), (1, .int p1), (2, .int p2)] := hl
  have hS9 : CallFix p m c cX4_on 3 s _ wsX4_on RX4 := ⟨hx, hb, hml, hown, hts⟩
  have hw0 := hts (.fieldLink RX4 12 "TrunkYards" "rows" "LTrunkYards$Rows;") (List.mem_cons_of_mem _ (List.mem_of_getElem? (i := 0) rfl))
  have hiX4 : ∀ w ∈ wsX40, w ∈ wsX4_on := fun w h => List.mem_cons_of_mem _ (List.mem_append_left _ (List.mem_append_left _ (List.mem_append_right _ h)))
  unfold tyf_T_on at hF
  refine lv_iload_n hx hb dX4_on_0 rfl (lv_at hl 1 rfl) ?_
  refine lv_iload_n hx hb dX4_on_1 rfl (lv_at hl 2 rfl) ?_
  rcases bX_some hF with ⟨kr2, r2, σ1, er2, hF⟩ | ⟨r2, σ1, er2, hF⟩
  · exact gx_T (gx_runS (As := [.int p1, .int p2]) (Qc := gQXv D (wC ad cA) (tC cA) _ _) hS9 (tyc_T_requireTrack l D ad cA _ σ p1 p2 _ hl9 er2) (va_cwS 2 hts gX4_on_X4_requireTrack rfl rfl rfl hd_X4_requireTrack ⟨by decide, by decide⟩) hOK hK hP hD hS hA hNN rfl hl.1 rfl (Nat.le_of_ble_eq_true rfl) dX4_on_2 ⟨by decide, by decide⟩) (gx_nov rfl) rfl hF ht9 hlocks hK hD hS hA
  refine gx_Rv (rest2 := ([.int p1, .int p2])) (gx_runS (As := [.int p1, .int p2]) (Qc := gQXv D (wC ad cA) (tC cA) _ _) hS9 (tyc_T_requireTrack l D ad cA _ σ p1 p2 _ hl9 er2) (va_cwS 2 hts gX4_on_X4_requireTrack rfl rfl rfl hd_X4_requireTrack ⟨by decide, by decide⟩) hOK hK hP hD hS hA hNN rfl hl.1 rfl (Nat.le_of_ble_eq_true rfl) dX4_on_2 ⟨by decide, by decide⟩) rfl hK hD hS hA (fun H locs hP hD hS => ?_)
  refine lv_aload_n hx hb dX4_on_5 rfl (lv_at hl 0 rfl) ?_
  refine va_get (D := D) (ci := 4) (v := .ref (ad 1)) (C := RX4) (T := TX4) (N := 12) hx hb hts hiX4 hown hK hP 0 (wC_0 ad cA σ1) rfl 0 (by decide) hw0 (fun _ h9 => h9) rfl dX4_on_6 ?_
  refine lv_iload_n hx hb dX4_on_9 rfl (lv_at hl 1 rfl) ?_
  refine lv_iload_n hx hb dX4_on_10 rfl (lv_at hl 2 rfl) ?_
  obtain ⟨r3, er3, hF⟩ := bR_some hF
  refine gc_Si (As := [.int p1, .int p2]) hS9 (tyc_T_rowOf l D ad cA _ σ1 p1 p2 r3 er3) (va_cwS 2 hts gX4_on_X4_rowOf rfl rfl rfl hd_X4_rowOf ⟨by decide, by decide⟩) hK hP hD hS hA hNN rfl hl.1 rfl (Nat.le_of_ble_eq_true rfl) dX4_on_11 (fun H locs hP hD hS => ?_)
  obtain ⟨r4, er4, hF⟩ := bR_some hF
  refine gc_Vi (As := [.int r3]) hS9 (tyc_R1_count l D ad cA _ σ1 r3 r4 er4) (cwV 1 hts gX4_on_X2_count rfl rfl rfl hd_X2_count ⟨by decide, by decide⟩) hK hP hD hS hA hNN (ci := 2) (q0 := 1) (N := 2) rfl (wC_1 ad cA σ1) rfl hl.1 rfl (Nat.le_of_ble_eq_true rfl) dX4_on_14 (fun H locs hP hD hS => ?_)
  exact g_iretX hx hb hr rfl hlocks hP hK hD hS dX4_on_17 hF
set_option maxHeartbeats 4000000 in
set_option maxRecDepth 100000 in
theorem tyc_T_wagonIn1 (l : Launch) (D : va_G) (ad : Nat → Nat) (cA : Nat → ClassId) (sz : Nat) (σ : tyS) (p1 : Int32) (p2 : Int32) (res : tyX) (hl9 : l.stackTraces = false) (hF : tyf_T_wagonIn1 σ p1 p2 = some res) : gXi gStr l yX4_wagonIn wsX4_wagonIn ({ frames := 6, cells := 1, slots := 6, locals := 82 } : Room) D (wC ad cA) (tC cA) [.ref (ad 1), .int p1, .int p2] sz σ res := by
  refine ty_ofW (cc := cX4_wagonIn) (maxL := 3) (ret := (some .int)) (by decide) rfl ?_
  intro p e s m args below meth c s₁ B hml ht9 hv
  obtain ⟨rfl, ⟨hsz, hP, hK, hD0, hNN⟩, hOK⟩ := hv
  have hx := B.exec
  have hb := B.bytes
  have hr := B.returns
  have hts := atoms_spec (ws := wsX4_wagonIn) B.pre
  have hown : s.vm.findClass RX4 = some m.cls := findClass_of_methodNamed B.named
  have hlocks := B.notSynchronized
  subst hsz
  have hD := hD0.self (sz := s.heap.size)
  generalize hAe : va_A (wC ad cA σ) s.heap.size = A at hD hOK ⊢
  have hA : ∀ q : Nat, s.heap.size ≤ q → A q := fun q h => by rw [← hAe]; exact Or.inr h
  clear hAe hD0
  have hS : va_S A s.heap s.heap [] := va_S.rf
  have hl := lv_entry ([.ref (ad 1), .int p1, .int p2]) (n := 3) (Nat.le_of_ble_eq_true rfl)
  rw [lg_entry_eq]
  generalize (lg_sl ([.ref (ad 1), .int p1, .int p2]) ++ List.replicate (3 - (lg_sl ([.ref (ad 1), .int p1, .int p2])).length) Slot.unset).toArray = ls at hl ⊢
  have hl : lv_has ls 3 [(0, .ref (ad 1)), (1, .int p1), (2, .int p2)] := hl
  have hS9 : CallFix p m c cX4_wagonIn 3 s _ wsX4_wagonIn RX4 := ⟨hx, hb, hml, hown, hts⟩
  have hw0 := hts (.classLink RX4 261 "java/lang/IndexOutOfBoundsException") (List.mem_cons_of_mem _ (List.mem_of_getElem? (i := 0) rfl))
  have hw1 := hts (.initialized "java/lang/IndexOutOfBoundsException") (List.mem_cons_of_mem _ (List.mem_of_getElem? (i := 1) rfl))
  unfold tyf_T_wagonIn1 at hF
  refine lv_iload_n hx hb dX4_wagonIn_0 rfl (lv_at hl 2 rfl) ?_
  refine lv_if_lt (tgt := 13) hx hb dX4_wagonIn_1 (by decide) (fun c_1 => ?_) (fun c_1 => ?_)
  · have hF := iteT hF c_1
    exact gx_throwSW (own := RX4) (cls := "java/lang/IndexOutOfBoundsException") (text := "there is no wagon at place") (k := 2) hx hb hl9 hown rfl (by decide +kernel) hw0 hw1 (fun w h => hts w (List.mem_cons_of_mem _ (List.mem_append_right _ h))) gnoX4_265 ggdX4_261_265 hOK (List.mem_of_getElem? (i := 32) rfl) (by rw [hml]; exact hl.1) ht9 hlocks hP hK hD hS dX4_wagonIn_13 dX4_wagonIn_16 dX4_wagonIn_17 dX4_wagonIn_20 dX4_wagonIn_23 ⟨by decide, by decide, by decide, by decide⟩ hF
  · have hF := iteF hF c_1
    refine lv_iload_n hx hb dX4_wagonIn_4 rfl (lv_at hl 2 rfl) ?_
    refine lv_aload_n hx hb dX4_wagonIn_5 rfl (lv_at hl 0 rfl) ?_
    refine lv_iload_n hx hb dX4_wagonIn_6 rfl (lv_at hl 1 rfl) ?_
    obtain ⟨r2, er2, hF⟩ := bR_some hF
    refine gc_Vi (As := [.int p1]) hS9 (tyc_R1_count l D ad cA _ σ p1 r2 er2) (cwV 1 hts gX4_wagonIn_X2_count rfl rfl rfl hd_X2_count ⟨by decide, by decide⟩) hK hP hD hS hA hNN (ci := 2) (q0 := 1) (N := 2) rfl (wC_1 ad cA σ) rfl hl.1 rfl (Nat.le_of_ble_eq_true rfl) dX4_wagonIn_7 (fun H locs hP hD hS => ?_)
    refine lv_icmp_lt (tgt := 24) hx hb dX4_wagonIn_10 (by decide) (fun c_3 => ?_) (fun c_3 => ?_)
    · have hF := iteT hF c_3
      refine lv_aload_n hx hb dX4_wagonIn_24 rfl (lv_at hl 0 rfl) ?_
      refine lv_iload_n hx hb dX4_wagonIn_25 rfl (lv_at hl 1 rfl) ?_
      refine lv_iload_n hx hb dX4_wagonIn_26 rfl (lv_at hl 2 rfl) ?_
      obtain ⟨r4, er4, hF⟩ := bR_some hF
      refine gc_Vi (As := [.int p1, .int p2]) hS9 (tyc_R1_get l D ad cA _ σ p1 p2 r4 er4) (cwV 2 hts gX4_wagonIn_X2_get rfl rfl rfl hd_X2_get ⟨by decide, by decide⟩) hK hP hD hS hA hNN (ci := 2) (q0 := 1) (N := 2) rfl (wC_1 ad cA σ) rfl hl.1 rfl (Nat.le_of_ble_eq_true rfl) dX4_wagonIn_27 (fun H locs hP hD hS => ?_)
      exact g_iretX hx hb hr rfl hlocks hP hK hD hS dX4_wagonIn_30 hF
    · have hF := iteF hF c_3
      exact gx_throwSW (own := RX4) (cls := "java/lang/IndexOutOfBoundsException") (text := "there is no wagon at place") (k := 2) hx hb hl9 hown rfl (by decide +kernel) hw0 hw1 (fun w h => hts w (List.mem_cons_of_mem _ (List.mem_append_right _ h))) gnoX4_265 ggdX4_261_265 hOK (List.mem_of_getElem? (i := 32) rfl) (by rw [hml]; exact hl.1) ht9 hlocks hP hK hD hS dX4_wagonIn_13 dX4_wagonIn_16 dX4_wagonIn_17 dX4_wagonIn_20 dX4_wagonIn_23 ⟨by decide, by decide, by decide, by decide⟩ hF
set_option maxHeartbeats 4000000 in
set_option maxRecDepth 100000 in
theorem tyc_T_at (l : Launch) (D : va_G) (ad : Nat → Nat) (cA : Nat → ClassId) (sz : Nat) (σ : tyS) (p1 : Int32) (p2 : Int32) (p3 : Int32) (res : tyX) (hl9 : l.stackTraces = false) (hF : tyf_T_at σ p1 p2 p3 = some res) : gXi gStr l yX4_at wsX4_at ({ frames := 7, cells := 1, slots := 6, locals := 104 } : Room) D (wC ad cA) (tC cA) [.ref (ad 0), .int p1, .int p2, .int p3] sz σ res := by
  refine ty_ofW (cc := cX4_at) (maxL := 4) (ret := (some .int)) (by decide) rfl ?_
  intro p e s m args below meth c s₁ B hml ht9 hv
  obtain ⟨rfl, ⟨hsz, hP, hK, hD0, hNN⟩, hOK⟩ := hv
  have hx := B.exec
  have hb := B.bytes
  have hr := B.returns
  have hts := atoms_spec (ws := wsX4_at) B.pre
  have hown : s.vm.findClass RX4 = some m.cls := findClass_of_methodNamed B.named
  have hlocks := B.notSynchronized
  subst hsz
  have hD := hD0.self (sz := s.heap.size)
  generalize hAe : va_A (wC ad cA σ) s.heap.size = A at hD hOK ⊢
  have hA : ∀ q : Nat, s.heap.size ≤ q → A q := fun q h => by rw [← hAe]; exact Or.inr h
  clear hAe hD0
  have hS : va_S A s.heap s.heap [] := va_S.rf
  have hl := lv_entry ([.ref (ad 0), .int p1, .int p2, .int p3]) (n := 4) (Nat.le_of_ble_eq_true rfl)
  rw [lg_entry_eq]
  generalize (lg_sl ([.ref (ad 0), .int p1, .int p2, .int p3]) ++ List.replicate (4 - (lg_sl ([.ref (ad 0), .int p1, .int p2, .int p3])).length) Slot.unset).toArray = ls at hl ⊢
  have hl : lv_has ls 4 [(0, .ref (ad 0)), (1, .int p1), (2, .int p2), (3, .int p3)] := hl
  have hS9 : CallFix p m c cX4_at 4 s _ wsX4_at RX4 := ⟨hx, hb, hml, hown, hts⟩
  have hw0 := hts (.fieldLink RX4 12 "TrunkYards" "rows" "LTrunkYards$Rows;") (List.mem_cons_of_mem _ (List.mem_of_getElem? (i := 0) rfl))
  have hiX4 : ∀ w ∈ wsX40, w ∈ wsX4_at := fun w h => List.mem_cons_of_mem _ (List.mem_append_left _ (List.mem_append_left _ (List.mem_append_left _ (List.mem_append_right _ h))))
  unfold tyf_T_at at hF
  refine lv_iload_n hx hb dX4_at_0 rfl (lv_at hl 1 rfl) ?_
  refine lv_iload_n hx hb dX4_at_1 rfl (lv_at hl 2 rfl) ?_
  rcases bX_some hF with ⟨kr2, r2, σ1, er2, hF⟩ | ⟨r2, σ1, er2, hF⟩
  · exact gx_T (gx_runS (As := [.int p1, .int p2]) (Qc := gQXv D (wC ad cA) (tC cA) _ _) hS9 (tyc_T_requireTrack l D ad cA _ σ p1 p2 _ hl9 er2) (va_cwS 2 hts gX4_at_X4_requireTrack rfl rfl rfl hd_X4_requireTrack ⟨by decide, by decide⟩) hOK hK hP hD hS hA hNN rfl hl.1 rfl (Nat.le_of_ble_eq_true rfl) dX4_at_2 ⟨by decide, by decide⟩) (gx_nov rfl) rfl hF ht9 hlocks hK hD hS hA
  refine gx_Rv (rest2 := ([.int p1, .int p2])) (gx_runS (As := [.int p1, .int p2]) (Qc := gQXv D (wC ad cA) (tC cA) _ _) hS9 (tyc_T_requireTrack l D ad cA _ σ p1 p2 _ hl9 er2) (va_cwS 2 hts gX4_at_X4_requireTrack rfl rfl rfl hd_X4_requireTrack ⟨by decide, by decide⟩) hOK hK hP hD hS hA hNN rfl hl.1 rfl (Nat.le_of_ble_eq_true rfl) dX4_at_2 ⟨by decide, by decide⟩) rfl hK hD hS hA (fun H locs hP hD hS => ?_)
  refine lv_aload_n hx hb dX4_at_5 rfl (lv_at hl 0 rfl) ?_
  refine va_get (D := D) (ci := 4) (v := .ref (ad 1)) (C := RX4) (T := TX4) (N := 12) hx hb hts hiX4 hown hK hP 0 (wC_0 ad cA σ1) rfl 0 (by decide) hw0 (fun _ h9 => h9) rfl dX4_at_6 ?_
  refine lv_iload_n hx hb dX4_at_9 rfl (lv_at hl 1 rfl) ?_
  refine lv_iload_n hx hb dX4_at_10 rfl (lv_at hl 2 rfl) ?_
  obtain ⟨r3, er3, hF⟩ := bR_some hF
  refine gc_Si (As := [.int p1, .int p2]) hS9 (tyc_T_rowOf l D ad cA _ σ1 p1 p2 r3 er3) (va_cwS 2 hts gX4_at_X4_rowOf rfl rfl rfl hd_X4_rowOf ⟨by decide, by decide⟩) hK hP hD hS hA hNN rfl hl.1 rfl (Nat.le_of_ble_eq_true rfl) dX4_at_11 (fun H locs hP hD hS => ?_)
  refine lv_iload_n hx hb dX4_at_14 rfl (lv_at hl 3 rfl) ?_
  rcases bX_some hF with ⟨kr5, r5, σ4, er5, hF⟩ | ⟨r5, σ4, er5, hF⟩
  · exact gx_T (gx_runS (As := [.ref (ad 1), .int r3, .int p3]) (Qc := gQXi D (wC ad cA) (tC cA) _ _) hS9 (tyc_T_wagonIn1 l D ad cA _ σ1 r3 p3 _ hl9 er5) (va_cwS 3 hts gX4_at_X4_wagonIn rfl rfl rfl hd_X4_wagonIn ⟨by decide, by decide⟩) hOK hK hP hD hS hA hNN rfl hl.1 rfl (Nat.le_of_ble_eq_true rfl) dX4_at_15 ⟨by decide, by decide⟩) (gx_noi rfl) rfl hF ht9 hlocks hK hD hS hA
  refine gx_Ri (rest2 := ([.ref (ad 1), .int r3, .int p3])) (gx_runS (As := [.ref (ad 1), .int r3, .int p3]) (Qc := gQXi D (wC ad cA) (tC cA) _ _) hS9 (tyc_T_wagonIn1 l D ad cA _ σ1 r3 p3 _ hl9 er5) (va_cwS 3 hts gX4_at_X4_wagonIn rfl rfl rfl hd_X4_wagonIn ⟨by decide, by decide⟩) hOK hK hP hD hS hA hNN rfl hl.1 rfl (Nat.le_of_ble_eq_true rfl) dX4_at_15 ⟨by decide, by decide⟩) rfl hK hD hS hA (fun H locs hP hD hS => ?_)
  exact g_iretX hx hb hr rfl hlocks hP hK hD hS dX4_at_18 hF
set_option maxHeartbeats 4000000 in
set_option maxRecDepth 100000 in
theorem tyc_R2_clear (l : Launch) (D : va_G) (ad : Nat → Nat) (cA : Nat → ClassId) (sz : Nat) (σ : tyS) (τ : tyS) (hF : tyf_R2_clear σ  = some τ) : gMv l yX2_clear wsX2_clear ({ frames := 1, cells := 0, slots := 0, locals := 23 } : Room) D (wC ad cA) (tC cA) [.ref (ad 2)] sz σ τ := by
  refine Met.ofW (cc := cX2_clear) (maxL := 1) (ret := none) (by decide) rfl ?_
  intro p e s m args below meth c s₁ B hml hv
  obtain ⟨rfl, hsz, hP, hK, hD0, hNN⟩ := hv
  have hx := B.exec
  have hb := B.bytes
  have hr := B.returns
  have hts := atoms_spec (ws := wsX2_clear) B.pre
  have hown : s.vm.findClass RX2 = some m.cls := findClass_of_methodNamed B.named
  have hlocks := B.notSynchronized
  subst hsz
  have hD := hD0.self (sz := s.heap.size)
  generalize hAe : va_A (wC ad cA σ) s.heap.size = A at hD ⊢
  have hA : ∀ q : Nat, s.heap.size ≤ q → A q := fun q h => by rw [← hAe]; exact Or.inr h
  clear hAe hD0
  have hS : va_S A s.heap s.heap [] := va_S.rf
  have hl := lv_entry ([.ref (ad 2)]) (n := 1) (Nat.le_of_ble_eq_true rfl)
  rw [lg_entry_eq]
  generalize (lg_sl ([.ref (ad 2)]) ++ List.replicate (1 - (lg_sl ([.ref (ad 2)])).length) Slot.unset).toArray = ls at hl ⊢
  have hl : lv_has ls 1 [(0, .ref (ad 2))] := hl
  have hS9 : CallFix p m c cX2_clear 1 s _ wsX2_clear RX2 := ⟨hx, hb, hml, hown, hts⟩
  have hw0 := hts (.fieldLink RX2 9 "TrunkYards$Rows" "counts" "[I") (List.mem_cons_of_mem _ (List.mem_of_getElem? (i := 0) rfl))
  have hiX2 : ∀ w ∈ wsX20, w ∈ wsX2_clear := fun w h => List.mem_cons_of_mem _ (List.mem_append_right _ h)
  unfold tyf_R2_clear at hF
  refine lv_aload_n hx hb dX2_clear_0 rfl (lv_at hl 0 rfl) ?_
  refine va_get (D := D) (ci := 2) (v := .ref (ad 8)) (C := RX2) (T := TX2) (N := 2) hx hb hts hiX2 hown hK hP 2 (wC_2 ad cA σ) rfl 0 (by decide) hw0 (fun _ h9 => h9) rfl dX2_clear_1 ?_
  refine lv_iconst (v := 0) hx hb dX2_clear_4 (by decide) ?_
  obtain ⟨σ1, e1, hF⟩ := stp_some hF
  refine gw_fill hS9 (va_cwS 2 hts gX2_clear_J7_fill_53178 rfl rfl rfl hd_fill ⟨by decide, by decide⟩) hK hP hD hS hA (wC_8 ad cA σ) (tC_8 cA) (wCs_8 ad cA σ) (by decide) hl.1 rfl (Nat.le_of_ble_eq_true rfl) dX2_clear_5 e1 (fun H locs hP hD hS => ?_)
  exact g_vretN hx hb hr hlocks hP hK hD hS dX2_clear_8 hF
set_option maxHeartbeats 4000000 in
set_option maxRecDepth 100000 in
theorem tyc_R2_move (l : Launch) (D : va_G) (ad : Nat → Nat) (cA : Nat → ClassId) (sz : Nat) (σ : tyS) (p1 : Int32) (p2 : Int32) (p3 : Int32) (τ : tyS) (hF : tyf_R2_move σ p1 p2 p3 = some τ) : gMv l yX2_move wsX2_move ({ frames := 0, cells := 0, slots := 0, locals := 0 } : Room) D (wC ad cA) (tC cA) [.ref (ad 2), .int p1, .int p2, .int p3] sz σ τ := by
  refine Met.ofW (cc := cX2_move) (maxL := 7) (ret := none) (by decide) rfl ?_
  intro p e s m args below meth c s₁ B hml hv
  obtain ⟨rfl, hsz, hP, hK, hD0, hNN⟩ := hv
  have hx := B.exec
  have hb := B.bytes
  have hr := B.returns
  have hts := atoms_spec (ws := wsX2_move) B.pre
  have hown : s.vm.findClass RX2 = some m.cls := findClass_of_methodNamed B.named
  have hlocks := B.notSynchronized
  subst hsz
  have hD := hD0.self (sz := s.heap.size)
  generalize hAe : va_A (wC ad cA σ) s.heap.size = A at hD ⊢
  have hA : ∀ q : Nat, s.heap.size ≤ q → A q := fun q h => by rw [← hAe]; exact Or.inr h
  clear hAe hD0
  have hS : va_S A s.heap s.heap [] := va_S.rf
  have hl := lv_entry ([.ref (ad 2), .int p1, .int p2, .int p3]) (n := 7) (Nat.le_of_ble_eq_true rfl)
  rw [lg_entry_eq]
  generalize (lg_sl ([.ref (ad 2), .int p1, .int p2, .int p3]) ++ List.replicate (7 - (lg_sl ([.ref (ad 2), .int p1, .int p2, .int p3])).length) Slot.unset).toArray = ls at hl ⊢
  have hl : lv_has ls 7 [(0, .ref (ad 2)), (1, .int p1), (2, .int p2), (3, .int p3)] := hl
  have hw0 := hts (.fieldLink RX2 9 "TrunkYards$Rows" "counts" "[I") (List.mem_cons_of_mem _ (List.mem_of_getElem? (i := 0) rfl))
  have hiX2 : ∀ w ∈ wsX20, w ∈ wsX2_move := fun w h => List.mem_cons_of_mem _ (List.mem_append_right _ h)
  have hw2 := hts (.fieldLink RX2 15 "TrunkYards$Rows" "standing" "[I") (List.mem_cons_of_mem _ (List.mem_of_getElem? (i := 1) rfl))
  unfold tyf_R2_move at hF
  refine lv_iload_n hx hb dX2_move_0 rfl (lv_at hl 1 rfl) ?_
  refine lv_bipush (v := 6) hx hb dX2_move_1 (by decide) ?_
  refine lv_imul hx hb dX2_move_3 ?_
  refine lv_aload_n hx hb dX2_move_4 rfl (lv_at hl 0 rfl) ?_
  refine va_get (D := D) (ci := 2) (v := .ref (ad 8)) (C := RX2) (T := TX2) (N := 2) hx hb hts hiX2 hown hK hP 2 (wC_2 ad cA σ) rfl 0 (by decide) hw0 (fun _ h9 => h9) rfl dX2_move_5 ?_
  refine lv_iload_n hx hb dX2_move_8 rfl (lv_at hl 1 rfl) ?_
  obtain ⟨hb_1, hF⟩ := chk_some hF
  refine va_iald hx hb hK hP 8 2 (wC_8 ad cA σ) (tC_8 cA) hb_1 dX2_move_9 ?_
  refine lv_iadd hx hb dX2_move_10 ?_
  refine lv_iload_n hx hb dX2_move_11 rfl (lv_at hl 3 rfl) ?_
  refine lv_isub hx hb dX2_move_12 ?_
  refine lv_istore (lv' := [(4, .int (((p1 * 6) + (σ.1 8 (p1).toNatClampNeg)) - p3)), (0, .ref (ad 2)), (1, .int p1), (2, .int p2), (3, .int p3)]) hx hb dX2_move_13 hl (by decide) rfl (fun ls hl => ?_)
  refine lv_iload_n hx hb dX2_move_15 rfl (lv_at hl 3 rfl) ?_
  refine lv_bipush (v := 6) hx hb dX2_move_16 (by decide) ?_
  refine lv_imul hx hb dX2_move_18 ?_
  refine lv_aload_n hx hb dX2_move_19 rfl (lv_at hl 1 rfl) ?_
  refine va_get (D := D) (ci := 2) (v := .ref (ad 8)) (C := RX2) (T := TX2) (N := 2) hx hb hts hiX2 hown hK hP 2 (wC_2 ad cA σ) rfl 0 (by decide) hw0 (fun _ h9 => h9) rfl dX2_move_20 ?_
  refine lv_iload_n hx hb dX2_move_23 rfl (lv_at hl 3 rfl) ?_
  obtain ⟨hb_2, hF⟩ := chk_some hF
  refine va_iald hx hb hK hP 8 2 (wC_8 ad cA σ) (tC_8 cA) hb_2 dX2_move_24 ?_
  refine lv_iadd hx hb dX2_move_25 ?_
  refine lv_istore (lv' := [(5, .int ((p2 * 6) + (σ.1 8 (p2).toNatClampNeg))), (4, .int (((p1 * 6) + (σ.1 8 (p1).toNatClampNeg)) - p3)), (0, .ref (ad 2)), (1, .int p1), (2, .int p2), (3, .int p3)]) hx hb dX2_move_26 hl (by decide) rfl (fun ls hl => ?_)
  refine lv_iconst (v := 0) hx hb dX2_move_28 (by decide) ?_
  refine lv_istore (lv' := [(6, .int 0), (5, .int ((p2 * 6) + (σ.1 8 (p2).toNatClampNeg))), (4, .int (((p1 * 6) + (σ.1 8 (p1).toNatClampNeg)) - p3)), (0, .ref (ad 2)), (1, .int p1), (2, .int p2), (3, .int p3)]) hx hb dX2_move_29 hl (by decide) rfl (fun ls hl => ?_)
  have lp31 : ∀ (k : tyS → Int32 → Int32 → Int32 → Int32 → Int32 → Int32 → Option tyS), (∀ (σ0 : tyS) (x1 : Int32) (x2 : Int32) (x3 : Int32) (x4 : Int32) (x5 : Int32) (x6 : Int32) , k σ0 x1 x2 x3 x4 x5 x6 = some τ → ∀ (H : Heap) (locs : List Loc) (ls : Array Slot), va_P D vwCl (wC ad cA σ0) H → va_D A (wC ad cA σ0) → va_S A s.heap H locs → lv_has ls 7 [(0, .ref (ad 2)), (1, .int x1), (2, .int x2), (3, .int x3), (4, .int x4), (5, .int x5), (6, .int x6)] → W p l e (headSpec wsX2_move ({ frames := 0, cells := 0, slots := 0, locals := 0 } : Room)).room s m #[.ref (ad 2), .int p1, .int p2, .int p3] below meth c H locs 0 0 (MQ below (gQv D (wC ad cA) (tC cA) A τ) #[.ref (ad 2), .int p1, .int p2, .int p3] s 0 0 A) (F0 m 63 ls [])) → ∀ (n : Nat), ∀ (σ0 : tyS) (x1 : Int32) (x2 : Int32) (x3 : Int32) (x4 : Int32) (x5 : Int32) (x6 : Int32) , tyl_R2_move_31 k n σ0 x1 x2 x3 x4 x5 x6 = some τ → ∀ (H : Heap) (locs : List Loc) (ls : Array Slot), va_P D vwCl (wC ad cA σ0) H → va_D A (wC ad cA σ0) → va_S A s.heap H locs → lv_has ls 7 [(0, .ref (ad 2)), (1, .int x1), (2, .int x2), (3, .int x3), (4, .int x4), (5, .int x5), (6, .int x6)] → W p l e (headSpec wsX2_move ({ frames := 0, cells := 0, slots := 0, locals := 0 } : Room)).room s m #[.ref (ad 2), .int p1, .int p2, .int p3] below meth c H locs 0 0 (MQ below (gQv D (wC ad cA) (tC cA) A τ) #[.ref (ad 2), .int p1, .int p2, .int p3] s 0 0 A) (F0 m 31 ls []) := by
    intro k hk n
    induction n with
    | zero =>
      intro σ0 x1 x2 x3 x4 x5 x6 hF
      exact absurd hF (fun h => nomatch h)
    | succ n ih =>
      intro σ0 x1 x2 x3 x4 x5 x6 hF H locs ls hP hD hS hl
      have hF : tyb_R2_move_31 k (tyl_R2_move_31 k n) σ0 x1 x2 x3 x4 x5 x6 = some τ := hF
      unfold tyb_R2_move_31 at hF
      refine lv_iload hx hb dX2_move_31 (lv_at hl 6 rfl) ?_
      refine lv_iload_n hx hb dX2_move_33 rfl (lv_at hl 3 rfl) ?_
      refine lv_icmp_ge (tgt := 63) hx hb dX2_move_34 (by decide) (fun c_3 => ?_) (fun c_3 => ?_)
      · have hF := iteT hF c_3
        exact hk σ0 x1 x2 x3 x4 x5 x6 hF _ _ _ hP hD hS (lv_sub hl [0, 1, 2, 3, 4, 5, 6] rfl)
      · have hF := iteF hF c_3
        refine lv_aload_n hx hb dX2_move_37 rfl (lv_at hl 0 rfl) ?_
        refine va_get (D := D) (ci := 2) (v := .ref (ad 9)) (C := RX2) (T := TX2) (N := 2) hx hb hts hiX2 hown hK hP 2 (wC_2 ad cA σ0) rfl 1 (by decide) hw2 (fun _ h9 => h9) rfl dX2_move_38 ?_
        refine lv_iload hx hb dX2_move_41 (lv_at hl 5 rfl) ?_
        refine lv_iload hx hb dX2_move_43 (lv_at hl 6 rfl) ?_
        refine lv_iadd hx hb dX2_move_45 ?_
        refine lv_aload_n hx hb dX2_move_46 rfl (lv_at hl 0 rfl) ?_
        refine va_get (D := D) (ci := 2) (v := .ref (ad 9)) (C := RX2) (T := TX2) (N := 2) hx hb hts hiX2 hown hK hP 2 (wC_2 ad cA σ0) rfl 1 (by decide) hw2 (fun _ h9 => h9) rfl dX2_move_47 ?_
        refine lv_iload hx hb dX2_move_50 (lv_at hl 4 rfl) ?_
        refine lv_iload hx hb dX2_move_52 (lv_at hl 6 rfl) ?_
        refine lv_iadd hx hb dX2_move_54 ?_
        obtain ⟨hb_4, hF⟩ := chk_some hF
        refine va_iald hx hb hK hP 9 3 (wC_9 ad cA σ0) (tC_9 cA) hb_4 dX2_move_55 ?_
        obtain ⟨hb_5, hF⟩ := chk_some hF
        obtain ⟨σ6, e6, hF⟩ := stp_some hF
        refine gw_iast hx hb hK hP hD hS (wC_9 ad cA σ0) (tC_9 cA) (wCs_9 ad cA σ0) hb_5 dX2_move_56 e6 (fun H locs hP hD hS => ?_)
        refine lv_iinc (v := (x6 + 1)) (lv' := [(6, .int (x6 + 1)), (0, .ref (ad 2)), (1, .int x1), (2, .int x2), (3, .int x3), (4, .int x4), (5, .int x5)]) hx hb dX2_move_57 hl (k := 6) rfl rfl (by decide) rfl (fun ls hl => ?_)
        refine lv_goto (tgt := 31) hx hb dX2_move_60 (by decide) ?_
        exact ih σ6 x1 x2 x3 x4 x5 (x6 + 1) hF _ _ _ hP hD hS (lv_sub hl [1, 2, 3, 4, 5, 6, 0] rfl)
  refine lp31 _ ?_ 64 σ p1 p2 p3 (((p1 * 6) + (σ.1 8 (p1).toNatClampNeg)) - p3) ((p2 * 6) + (σ.1 8 (p2).toNatClampNeg)) 0 hF _ _ _ hP hD hS (lv_sub hl [3, 4, 5, 6, 2, 1, 0] rfl)
  intro σ0 x1 x2 x3 x4 x5 x6 hF H locs ls hP hD hS hl
  refine lv_aload_n hx hb dX2_move_63 rfl (lv_at hl 0 rfl) ?_
  refine va_get (D := D) (ci := 2) (v := .ref (ad 8)) (C := RX2) (T := TX2) (N := 2) hx hb hts hiX2 hown hK hP 2 (wC_2 ad cA σ0) rfl 0 (by decide) hw0 (fun _ h9 => h9) rfl dX2_move_64 ?_
  refine lv_iload_n hx hb dX2_move_67 rfl (lv_at hl 1 rfl) ?_
  refine lv_dup2_11 hx hb dX2_move_68 rfl rfl ?_
  obtain ⟨hb_7, hF⟩ := chk_some hF
  refine va_iald hx hb hK hP 8 2 (wC_8 ad cA σ0) (tC_8 cA) hb_7 dX2_move_69 ?_
  refine lv_iload_n hx hb dX2_move_70 rfl (lv_at hl 3 rfl) ?_
  refine lv_isub hx hb dX2_move_71 ?_
  obtain ⟨hb_8, hF⟩ := chk_some hF
  obtain ⟨σ9, e9, hF⟩ := stp_some hF
  refine gw_iast hx hb hK hP hD hS (wC_8 ad cA σ0) (tC_8 cA) (wCs_8 ad cA σ0) hb_8 dX2_move_72 e9 (fun H locs hP hD hS => ?_)
  refine lv_aload_n hx hb dX2_move_73 rfl (lv_at hl 0 rfl) ?_
  refine va_get (D := D) (ci := 2) (v := .ref (ad 8)) (C := RX2) (T := TX2) (N := 2) hx hb hts hiX2 hown hK hP 2 (wC_2 ad cA σ9) rfl 0 (by decide) hw0 (fun _ h9 => h9) rfl dX2_move_74 ?_
  refine lv_iload_n hx hb dX2_move_77 rfl (lv_at hl 2 rfl) ?_
  refine lv_dup2_11 hx hb dX2_move_78 rfl rfl ?_
  obtain ⟨hb_10, hF⟩ := chk_some hF
  refine va_iald hx hb hK hP 8 2 (wC_8 ad cA σ9) (tC_8 cA) hb_10 dX2_move_79 ?_
  refine lv_iload_n hx hb dX2_move_80 rfl (lv_at hl 3 rfl) ?_
  refine lv_iadd hx hb dX2_move_81 ?_
  obtain ⟨hb_11, hF⟩ := chk_some hF
  obtain ⟨σ12, e12, hF⟩ := stp_some hF
  refine gw_iast hx hb hK hP hD hS (wC_8 ad cA σ9) (tC_8 cA) (wCs_8 ad cA σ9) hb_11 dX2_move_82 e12 (fun H locs hP hD hS => ?_)
  exact g_vretN hx hb hr hlocks hP hK hD hS dX2_move_83 hF
set_option maxHeartbeats 4000000 in
set_option maxRecDepth 100000 in
theorem tyc_R2_put (l : Launch) (D : va_G) (ad : Nat → Nat) (cA : Nat → ClassId) (sz : Nat) (σ : tyS) (p1 : Int32) (p2 : Int32) (τ : tyS) (hF : tyf_R2_put σ p1 p2 = some τ) : gMv l yX2_put wsX2_put ({ frames := 0, cells := 0, slots := 0, locals := 0 } : Room) D (wC ad cA) (tC cA) [.ref (ad 2), .int p1, .int p2] sz σ τ := by
  refine Met.ofW (cc := cX2_put) (maxL := 3) (ret := none) (by decide) rfl ?_
  intro p e s m args below meth c s₁ B hml hv
  obtain ⟨rfl, hsz, hP, hK, hD0, hNN⟩ := hv
  have hx := B.exec
  have hb := B.bytes
  have hr := B.returns
  have hts := atoms_spec (ws := wsX2_put) B.pre
  have hown : s.vm.findClass RX2 = some m.cls := findClass_of_methodNamed B.named
  have hlocks := B.notSynchronized
  subst hsz
  have hD := hD0.self (sz := s.heap.size)
  generalize hAe : va_A (wC ad cA σ) s.heap.size = A at hD ⊢
  have hA : ∀ q : Nat, s.heap.size ≤ q → A q := fun q h => by rw [← hAe]; exact Or.inr h
  clear hAe hD0
  have hS : va_S A s.heap s.heap [] := va_S.rf
  have hl := lv_entry ([.ref (ad 2), .int p1, .int p2]) (n := 3) (Nat.le_of_ble_eq_true rfl)
  rw [lg_entry_eq]
  generalize (lg_sl ([.ref (ad 2), .int p1, .int p2]) ++ List.replicate (3 - (lg_sl ([.ref (ad 2), .int p1, .int p2])).length) Slot.unset).toArray = ls at hl ⊢
  have hl : lv_has ls 3 [(0, .ref (ad 2)), (1, .int p1), (2, .int p2)] := hl
  have hw0 := hts (.fieldLink RX2 15 "TrunkYards$Rows" "standing" "[I") (List.mem_cons_of_mem _ (List.mem_of_getElem? (i := 0) rfl))
  have hiX2 : ∀ w ∈ wsX20, w ∈ wsX2_put := fun w h => List.mem_cons_of_mem _ (List.mem_append_right _ h)
  have hw2 := hts (.fieldLink RX2 9 "TrunkYards$Rows" "counts" "[I") (List.mem_cons_of_mem _ (List.mem_of_getElem? (i := 1) rfl))
  unfold tyf_R2_put at hF
  refine lv_aload_n hx hb dX2_put_0 rfl (lv_at hl 0 rfl) ?_
  refine va_get (D := D) (ci := 2) (v := .ref (ad 9)) (C := RX2) (T := TX2) (N := 2) hx hb hts hiX2 hown hK hP 2 (wC_2 ad cA σ) rfl 1 (by decide) hw0 (fun _ h9 => h9) rfl dX2_put_1 ?_
  refine lv_iload_n hx hb dX2_put_4 rfl (lv_at hl 1 rfl) ?_
  refine lv_bipush (v := 6) hx hb dX2_put_5 (by decide) ?_
  refine lv_imul hx hb dX2_put_7 ?_
  refine lv_aload_n hx hb dX2_put_8 rfl (lv_at hl 0 rfl) ?_
  refine va_get (D := D) (ci := 2) (v := .ref (ad 8)) (C := RX2) (T := TX2) (N := 2) hx hb hts hiX2 hown hK hP 2 (wC_2 ad cA σ) rfl 0 (by decide) hw2 (fun _ h9 => h9) rfl dX2_put_9 ?_
  refine lv_iload_n hx hb dX2_put_12 rfl (lv_at hl 1 rfl) ?_
  obtain ⟨hb_1, hF⟩ := chk_some hF
  refine va_iald hx hb hK hP 8 2 (wC_8 ad cA σ) (tC_8 cA) hb_1 dX2_put_13 ?_
  refine lv_iadd hx hb dX2_put_14 ?_
  refine lv_iload_n hx hb dX2_put_15 rfl (lv_at hl 2 rfl) ?_
  obtain ⟨hb_2, hF⟩ := chk_some hF
  obtain ⟨σ3, e3, hF⟩ := stp_some hF
  refine gw_iast hx hb hK hP hD hS (wC_9 ad cA σ) (tC_9 cA) (wCs_9 ad cA σ) hb_2 dX2_put_16 e3 (fun H locs hP hD hS => ?_)
  refine lv_aload_n hx hb dX2_put_17 rfl (lv_at hl 0 rfl) ?_
  refine va_get (D := D) (ci := 2) (v := .ref (ad 8)) (C := RX2) (T := TX2) (N := 2) hx hb hts hiX2 hown hK hP 2 (wC_2 ad cA σ3) rfl 0 (by decide) hw2 (fun _ h9 => h9) rfl dX2_put_18 ?_
  refine lv_iload_n hx hb dX2_put_21 rfl (lv_at hl 1 rfl) ?_
  refine lv_dup2_11 hx hb dX2_put_22 rfl rfl ?_
  obtain ⟨hb_4, hF⟩ := chk_some hF
  refine va_iald hx hb hK hP 8 2 (wC_8 ad cA σ3) (tC_8 cA) hb_4 dX2_put_23 ?_
  refine lv_iconst (v := 1) hx hb dX2_put_24 (by decide) ?_
  refine lv_iadd hx hb dX2_put_25 ?_
  obtain ⟨hb_5, hF⟩ := chk_some hF
  obtain ⟨σ6, e6, hF⟩ := stp_some hF
  refine gw_iast hx hb hK hP hD hS (wC_8 ad cA σ3) (tC_8 cA) (wCs_8 ad cA σ3) hb_5 dX2_put_26 e6 (fun H locs hP hD hS => ?_)
  exact g_vretN hx hb hr hlocks hP hK hD hS dX2_put_27 hF
set_option maxHeartbeats 4000000 in
set_option maxRecDepth 100000 in
theorem tyc_H_replay (l : Launch) (D : va_G) (ad : Nat → Nat) (cA : Nat → ClassId) (sz : Nat) (σ : tyS) (τ : tyS) (hF : tyf_H_replay σ  = some τ) : gMv l yX0_replay wsX0_replay ({ frames := 2, cells := 0, slots := 0, locals := 43 } : Room) D (wC ad cA) (tC cA) [.ref (ad 3), .ref (ad 2)] sz σ τ := by
  refine Met.ofW (cc := cX0_replay) (maxL := 3) (ret := none) (by decide) rfl ?_
  intro p e s m args below meth c s₁ B hml hv
  obtain ⟨rfl, hsz, hP, hK, hD0, hNN⟩ := hv
  have hx := B.exec
  have hb := B.bytes
  have hr := B.returns
  have hts := atoms_spec (ws := wsX0_replay) B.pre
  have hown : s.vm.findClass RX0 = some m.cls := findClass_of_methodNamed B.named
  have hlocks := B.notSynchronized
  subst hsz
  have hD := hD0.self (sz := s.heap.size)
  generalize hAe : va_A (wC ad cA σ) s.heap.size = A at hD ⊢
  have hA : ∀ q : Nat, s.heap.size ≤ q → A q := fun q h => by rw [← hAe]; exact Or.inr h
  clear hAe hD0
  have hS : va_S A s.heap s.heap [] := va_S.rf
  have hl := lv_entry ([.ref (ad 3), .ref (ad 2)]) (n := 3) (Nat.le_of_ble_eq_true rfl)
  rw [lg_entry_eq]
  generalize (lg_sl ([.ref (ad 3), .ref (ad 2)]) ++ List.replicate (3 - (lg_sl ([.ref (ad 3), .ref (ad 2)])).length) Slot.unset).toArray = ls at hl ⊢
  have hl : lv_has ls 3 [(0, .ref (ad 3)), (1, .ref (ad 2))] := hl
  have hS9 : CallFix p m c cX0_replay 3 s _ wsX0_replay RX0 := ⟨hx, hb, hml, hown, hts⟩
  have hw0 := hts (.fieldLink RX0 25 "TrunkYards$History" "noted" "I") (List.mem_cons_of_mem _ (List.mem_of_getElem? (i := 0) rfl))
  have hiX0 : ∀ w ∈ wsX00, w ∈ wsX0_replay := fun w h => List.mem_cons_of_mem _ (List.mem_append_left _ (List.mem_append_right _ h))
  have hw2 := hts (.fieldLink RX0 9 "TrunkYards$History" "from" "[I") (List.mem_cons_of_mem _ (List.mem_of_getElem? (i := 1) rfl))
  have hw3 := hts (.fieldLink RX0 15 "TrunkYards$History" "to" "[I") (List.mem_cons_of_mem _ (List.mem_of_getElem? (i := 2) rfl))
  have hw4 := hts (.fieldLink RX0 18 "TrunkYards$History" "many" "[I") (List.mem_cons_of_mem _ (List.mem_of_getElem? (i := 3) rfl))
  unfold tyf_H_replay at hF
  refine lv_aload_n hx hb dX0_replay_0 rfl (lv_at hl 1 rfl) ?_
  obtain ⟨σ1, e1, hF⟩ := bR_some hF
  refine gc_Vv (As := []) hS9 (tyc_R2_clear l D ad cA _ σ  σ1 e1) (cwV 0 hts gX0_replay_X2_clear rfl rfl rfl hd_X2_clear ⟨by decide, by decide⟩) hK hP hD hS hA hNN (ci := 2) (q0 := 2) (N := 2) rfl (wC_2 ad cA σ) rfl hl.1 rfl (Nat.le_of_ble_eq_true rfl) dX0_replay_1 (fun H locs hP hD hS => ?_)
  refine lv_iconst (v := 0) hx hb dX0_replay_4 (by decide) ?_
  refine lv_istore_n (lv' := [(2, .int 0), (0, .ref (ad 3)), (1, .ref (ad 2))]) hx hb dX0_replay_5 rfl hl (by decide) rfl (fun ls hl => ?_)
  have lp6 : ∀ (k : tyS → Int32 → Option tyS), (∀ (σ0 : tyS) (x2 : Int32) , k σ0 x2 = some τ → ∀ (H : Heap) (locs : List Loc) (ls : Array Slot), va_P D vwCl (wC ad cA σ0) H → va_D A (wC ad cA σ0) → va_S A s.heap H locs → lv_has ls 3 [(0, .ref (ad 3)), (1, .ref (ad 2)), (2, .int x2)] → W p l e (headSpec wsX0_replay ({ frames := 2, cells := 0, slots := 0, locals := 43 } : Room)).room s m #[.ref (ad 3), .ref (ad 2)] below meth c H locs 0 0 (MQ below (gQv D (wC ad cA) (tC cA) A τ) #[.ref (ad 3), .ref (ad 2)] s 0 0 A) (F0 m 71 ls [])) → ∀ (n : Nat), ∀ (σ0 : tyS) (x2 : Int32) , tyl_H_replay_6 k n σ0 x2 = some τ → ∀ (H : Heap) (locs : List Loc) (ls : Array Slot), va_P D vwCl (wC ad cA σ0) H → va_D A (wC ad cA σ0) → va_S A s.heap H locs → lv_has ls 3 [(0, .ref (ad 3)), (1, .ref (ad 2)), (2, .int x2)] → W p l e (headSpec wsX0_replay ({ frames := 2, cells := 0, slots := 0, locals := 43 } : Room)).room s m #[.ref (ad 3), .ref (ad 2)] below meth c H locs 0 0 (MQ below (gQv D (wC ad cA) (tC cA) A τ) #[.ref (ad 3), .ref (ad 2)] s 0 0 A) (F0 m 6 ls []) := by
    intro k hk n
    induction n with
    | zero =>
      intro σ0 x2 hF
      exact absurd hF (fun h => nomatch h)
    | succ n ih =>
      intro σ0 x2 hF H locs ls hP hD hS hl
      have hF : tyb_H_replay_6 k (tyl_H_replay_6 k n) σ0 x2 = some τ := hF
      unfold tyb_H_replay_6 at hF
      refine lv_iload_n hx hb dX0_replay_6 rfl (lv_at hl 2 rfl) ?_
      refine lv_aload_n hx hb dX0_replay_7 rfl (lv_at hl 0 rfl) ?_
      refine va_get (D := D) (ci := 0) (v := .int (σ0.2 4)) (C := RX0) (T := TX0) (N := 4) hx hb hts hiX0 hown hK hP 3 (wC_3 ad cA σ0) rfl 3 (by decide) hw0 (fun _ h9 => h9) rfl dX0_replay_8 ?_
      refine lv_icmp_ge (tgt := 71) hx hb dX0_replay_11 (by decide) (fun c_2 => ?_) (fun c_2 => ?_)
      · have hF := iteT hF c_2
        exact hk σ0 x2 hF _ _ _ hP hD hS (lv_sub hl [0, 1, 2] rfl)
      · have hF := iteF hF c_2
        refine lv_aload_n hx hb dX0_replay_14 rfl (lv_at hl 0 rfl) ?_
        refine va_get (D := D) (ci := 0) (v := .ref (ad 10)) (C := RX0) (T := TX0) (N := 4) hx hb hts hiX0 hown hK hP 3 (wC_3 ad cA σ0) rfl 0 (by decide) hw2 (fun _ h9 => h9) rfl dX0_replay_15 ?_
        refine lv_iload_n hx hb dX0_replay_18 rfl (lv_at hl 2 rfl) ?_
        obtain ⟨hb_3, hF⟩ := chk_some hF
        refine va_iald hx hb hK hP 10 4 (wC_10 ad cA σ0) (tC_10 cA) hb_3 dX0_replay_19 ?_
        refine lv_iconst (v := (-1)) hx hb dX0_replay_20 (by decide) ?_
        refine lv_icmp_ne (tgt := 43) hx hb dX0_replay_21 (by decide) (fun c_4 => ?_) (fun c_4 => ?_)
        · have hF := iteF hF c_4
          refine lv_aload_n hx hb dX0_replay_43 rfl (lv_at hl 1 rfl) ?_
          refine lv_aload_n hx hb dX0_replay_44 rfl (lv_at hl 0 rfl) ?_
          refine va_get (D := D) (ci := 0) (v := .ref (ad 10)) (C := RX0) (T := TX0) (N := 4) hx hb hts hiX0 hown hK hP 3 (wC_3 ad cA σ0) rfl 0 (by decide) hw2 (fun _ h9 => h9) rfl dX0_replay_45 ?_
          refine lv_iload_n hx hb dX0_replay_48 rfl (lv_at hl 2 rfl) ?_
          obtain ⟨hb_5, hF⟩ := chk_some hF
          refine va_iald hx hb hK hP 10 4 (wC_10 ad cA σ0) (tC_10 cA) hb_5 dX0_replay_49 ?_
          refine lv_aload_n hx hb dX0_replay_50 rfl (lv_at hl 0 rfl) ?_
          refine va_get (D := D) (ci := 0) (v := .ref (ad 11)) (C := RX0) (T := TX0) (N := 4) hx hb hts hiX0 hown hK hP 3 (wC_3 ad cA σ0) rfl 1 (by decide) hw3 (fun _ h9 => h9) rfl dX0_replay_51 ?_
          refine lv_iload_n hx hb dX0_replay_54 rfl (lv_at hl 2 rfl) ?_
          obtain ⟨hb_6, hF⟩ := chk_some hF
          refine va_iald hx hb hK hP 11 5 (wC_11 ad cA σ0) (tC_11 cA) hb_6 dX0_replay_55 ?_
          refine lv_aload_n hx hb dX0_replay_56 rfl (lv_at hl 0 rfl) ?_
          refine va_get (D := D) (ci := 0) (v := .ref (ad 12)) (C := RX0) (T := TX0) (N := 4) hx hb hts hiX0 hown hK hP 3 (wC_3 ad cA σ0) rfl 2 (by decide) hw4 (fun _ h9 => h9) rfl dX0_replay_57 ?_
          refine lv_iload_n hx hb dX0_replay_60 rfl (lv_at hl 2 rfl) ?_
          obtain ⟨hb_7, hF⟩ := chk_some hF
          refine va_iald hx hb hK hP 12 6 (wC_12 ad cA σ0) (tC_12 cA) hb_7 dX0_replay_61 ?_
          obtain ⟨σ8, e8, hF⟩ := bR_some hF
          refine gc_Vv (As := [.int (σ0.1 10 (x2).toNatClampNeg), .int (σ0.1 11 (x2).toNatClampNeg), .int (σ0.1 12 (x2).toNatClampNeg)]) hS9 (tyc_R2_move l D ad cA _ σ0 (σ0.1 10 (x2).toNatClampNeg) (σ0.1 11 (x2).toNatClampNeg) (σ0.1 12 (x2).toNatClampNeg) σ8 e8) (cwV 3 hts gX0_replay_X2_move rfl rfl rfl hd_X2_move ⟨by decide, by decide⟩) hK hP hD hS hA hNN (ci := 2) (q0 := 2) (N := 2) rfl (wC_2 ad cA σ0) rfl hl.1 rfl (Nat.le_of_ble_eq_true rfl) dX0_replay_62 (fun H locs hP hD hS => ?_)
          refine lv_iinc (v := (x2 + 1)) (lv' := [(2, .int (x2 + 1)), (0, .ref (ad 3)), (1, .ref (ad 2))]) hx hb dX0_replay_65 hl (k := 2) rfl rfl (by decide) rfl (fun ls hl => ?_)
          refine lv_goto (tgt := 6) hx hb dX0_replay_68 (by decide) ?_
          exact ih σ8 (x2 + 1) hF _ _ _ hP hD hS (lv_sub hl [1, 2, 0] rfl)
        · have hF := iteT hF c_4
          refine lv_aload_n hx hb dX0_replay_24 rfl (lv_at hl 1 rfl) ?_
          refine lv_aload_n hx hb dX0_replay_25 rfl (lv_at hl 0 rfl) ?_
          refine va_get (D := D) (ci := 0) (v := .ref (ad 11)) (C := RX0) (T := TX0) (N := 4) hx hb hts hiX0 hown hK hP 3 (wC_3 ad cA σ0) rfl 1 (by decide) hw3 (fun _ h9 => h9) rfl dX0_replay_26 ?_
          refine lv_iload_n hx hb dX0_replay_29 rfl (lv_at hl 2 rfl) ?_
          obtain ⟨hb_9, hF⟩ := chk_some hF
          refine va_iald hx hb hK hP 11 5 (wC_11 ad cA σ0) (tC_11 cA) hb_9 dX0_replay_30 ?_
          refine lv_aload_n hx hb dX0_replay_31 rfl (lv_at hl 0 rfl) ?_
          refine va_get (D := D) (ci := 0) (v := .ref (ad 12)) (C := RX0) (T := TX0) (N := 4) hx hb hts hiX0 hown hK hP 3 (wC_3 ad cA σ0) rfl 2 (by decide) hw4 (fun _ h9 => h9) rfl dX0_replay_32 ?_
          refine lv_iload_n hx hb dX0_replay_35 rfl (lv_at hl 2 rfl) ?_
          obtain ⟨hb_10, hF⟩ := chk_some hF
          refine va_iald hx hb hK hP 12 6 (wC_12 ad cA σ0) (tC_12 cA) hb_10 dX0_replay_36 ?_
          obtain ⟨σ11, e11, hF⟩ := bR_some hF
          refine gc_Vv (As := [.int (σ0.1 11 (x2).toNatClampNeg), .int (σ0.1 12 (x2).toNatClampNeg)]) hS9 (tyc_R2_put l D ad cA _ σ0 (σ0.1 11 (x2).toNatClampNeg) (σ0.1 12 (x2).toNatClampNeg) σ11 e11) (cwV 2 hts gX0_replay_X2_put rfl rfl rfl hd_X2_put ⟨by decide, by decide⟩) hK hP hD hS hA hNN (ci := 2) (q0 := 2) (N := 2) rfl (wC_2 ad cA σ0) rfl hl.1 rfl (Nat.le_of_ble_eq_true rfl) dX0_replay_37 (fun H locs hP hD hS => ?_)
          refine lv_goto (tgt := 65) hx hb dX0_replay_40 (by decide) ?_
          refine lv_iinc (v := (x2 + 1)) (lv' := [(2, .int (x2 + 1)), (0, .ref (ad 3)), (1, .ref (ad 2))]) hx hb dX0_replay_65 hl (k := 2) rfl rfl (by decide) rfl (fun ls hl => ?_)
          refine lv_goto (tgt := 6) hx hb dX0_replay_68 (by decide) ?_
          exact ih σ11 (x2 + 1) hF _ _ _ hP hD hS (lv_sub hl [1, 2, 0] rfl)
  refine lp6 _ ?_ 520 σ1 0 hF _ _ _ hP hD hS (lv_sub hl [1, 2, 0] rfl)
  intro σ0 x2 hF H locs ls hP hD hS hl
  exact g_vretN hx hb hr hlocks hP hK hD hS dX0_replay_71 hF
set_option maxHeartbeats 4000000 in
set_option maxRecDepth 100000 in
theorem tyc_R2_count (l : Launch) (D : va_G) (ad : Nat → Nat) (cA : Nat → ClassId) (sz : Nat) (σ : tyS) (p1 : Int32) (r : Int32) (hF : tyf_R2_count σ p1 = some r) : gMi l yX2_count wsX2_count ({ frames := 0, cells := 0, slots := 0, locals := 0 } : Room) D (wC ad cA) (tC cA) [.ref (ad 2), .int p1] sz σ r σ := by
  refine Met.ofW (cc := cX2_count) (maxL := 2) (ret := (some .int)) (by decide) rfl ?_
  intro p e s m args below meth c s₁ B hml hv
  obtain ⟨rfl, hsz, hP, hK, hD0, hNN⟩ := hv
  have hx := B.exec
  have hb := B.bytes
  have hr := B.returns
  have hts := atoms_spec (ws := wsX2_count) B.pre
  have hown : s.vm.findClass RX2 = some m.cls := findClass_of_methodNamed B.named
  have hlocks := B.notSynchronized
  subst hsz
  have hD := hD0.self (sz := s.heap.size)
  generalize hAe : va_A (wC ad cA σ) s.heap.size = A at hD ⊢
  have hA : ∀ q : Nat, s.heap.size ≤ q → A q := fun q h => by rw [← hAe]; exact Or.inr h
  clear hAe hD0
  have hS : va_S A s.heap s.heap [] := va_S.rf
  have hl := lv_entry ([.ref (ad 2), .int p1]) (n := 2) (Nat.le_of_ble_eq_true rfl)
  rw [lg_entry_eq]
  generalize (lg_sl ([.ref (ad 2), .int p1]) ++ List.replicate (2 - (lg_sl ([.ref (ad 2), .int p1])).length) Slot.unset).toArray = ls at hl ⊢
  have hl : lv_has ls 2 [(0, .ref (ad 2)), (1, .int p1)] := hl
  have hw0 := hts (.fieldLink RX2 9 "TrunkYards$Rows" "counts" "[I") (List.mem_cons_of_mem _ (List.mem_of_getElem? (i := 0) rfl))
  have hiX2 : ∀ w ∈ wsX20, w ∈ wsX2_count := fun w h => List.mem_cons_of_mem _ (List.mem_append_right _ h)
  unfold tyf_R2_count at hF
  refine lv_aload_n hx hb dX2_count_0 rfl (lv_at hl 0 rfl) ?_
  refine va_get (D := D) (ci := 2) (v := .ref (ad 8)) (C := RX2) (T := TX2) (N := 2) hx hb hts hiX2 hown hK hP 2 (wC_2 ad cA σ) rfl 0 (by decide) hw0 (fun _ h9 => h9) rfl dX2_count_1 ?_
  refine lv_iload_n hx hb dX2_count_4 rfl (lv_at hl 1 rfl) ?_
  obtain ⟨hb_1, hF⟩ := chk_some hF
  refine va_iald hx hb hK hP 8 2 (wC_8 ad cA σ) (tC_8 cA) hb_1 dX2_count_5 ?_
  exact g_iretR hx hb hr rfl hlocks hP hK hD hS dX2_count_6 hF
set_option maxHeartbeats 4000000 in
set_option maxRecDepth 100000 in
theorem tyc_R2_get (l : Launch) (D : va_G) (ad : Nat → Nat) (cA : Nat → ClassId) (sz : Nat) (σ : tyS) (p1 : Int32) (p2 : Int32) (r : Int32) (hF : tyf_R2_get σ p1 p2 = some r) : gMi l yX2_get wsX2_get ({ frames := 0, cells := 0, slots := 0, locals := 0 } : Room) D (wC ad cA) (tC cA) [.ref (ad 2), .int p1, .int p2] sz σ r σ := by
  refine Met.ofW (cc := cX2_get) (maxL := 3) (ret := (some .int)) (by decide) rfl ?_
  intro p e s m args below meth c s₁ B hml hv
  obtain ⟨rfl, hsz, hP, hK, hD0, hNN⟩ := hv
  have hx := B.exec
  have hb := B.bytes
  have hr := B.returns
  have hts := atoms_spec (ws := wsX2_get) B.pre
  have hown : s.vm.findClass RX2 = some m.cls := findClass_of_methodNamed B.named
  have hlocks := B.notSynchronized
  subst hsz
  have hD := hD0.self (sz := s.heap.size)
  generalize hAe : va_A (wC ad cA σ) s.heap.size = A at hD ⊢
  have hA : ∀ q : Nat, s.heap.size ≤ q → A q := fun q h => by rw [← hAe]; exact Or.inr h
  clear hAe hD0
  have hS : va_S A s.heap s.heap [] := va_S.rf
  have hl := lv_entry ([.ref (ad 2), .int p1, .int p2]) (n := 3) (Nat.le_of_ble_eq_true rfl)
  rw [lg_entry_eq]
  generalize (lg_sl ([.ref (ad 2), .int p1, .int p2]) ++ List.replicate (3 - (lg_sl ([.ref (ad 2), .int p1, .int p2])).length) Slot.unset).toArray = ls at hl ⊢
  have hl : lv_has ls 3 [(0, .ref (ad 2)), (1, .int p1), (2, .int p2)] := hl
  have hw0 := hts (.fieldLink RX2 15 "TrunkYards$Rows" "standing" "[I") (List.mem_cons_of_mem _ (List.mem_of_getElem? (i := 0) rfl))
  have hiX2 : ∀ w ∈ wsX20, w ∈ wsX2_get := fun w h => List.mem_cons_of_mem _ (List.mem_append_right _ h)
  unfold tyf_R2_get at hF
  refine lv_aload_n hx hb dX2_get_0 rfl (lv_at hl 0 rfl) ?_
  refine va_get (D := D) (ci := 2) (v := .ref (ad 9)) (C := RX2) (T := TX2) (N := 2) hx hb hts hiX2 hown hK hP 2 (wC_2 ad cA σ) rfl 1 (by decide) hw0 (fun _ h9 => h9) rfl dX2_get_1 ?_
  refine lv_iload_n hx hb dX2_get_4 rfl (lv_at hl 1 rfl) ?_
  refine lv_bipush (v := 6) hx hb dX2_get_5 (by decide) ?_
  refine lv_imul hx hb dX2_get_7 ?_
  refine lv_iload_n hx hb dX2_get_8 rfl (lv_at hl 2 rfl) ?_
  refine lv_iadd hx hb dX2_get_9 ?_
  obtain ⟨hb_1, hF⟩ := chk_some hF
  refine va_iald hx hb hK hP 9 3 (wC_9 ad cA σ) (tC_9 cA) hb_1 dX2_get_10 ?_
  exact g_iretR hx hb hr rfl hlocks hP hK hD hS dX2_get_11 hF
set_option maxHeartbeats 4000000 in
set_option maxRecDepth 100000 in
theorem tyc_T_wagonIn2 (l : Launch) (D : va_G) (ad : Nat → Nat) (cA : Nat → ClassId) (sz : Nat) (σ : tyS) (p1 : Int32) (p2 : Int32) (res : tyX) (hl9 : l.stackTraces = false) (hF : tyf_T_wagonIn2 σ p1 p2 = some res) : gXi gStr l yX4_wagonIn wsX4_wagonIn ({ frames := 6, cells := 1, slots := 6, locals := 82 } : Room) D (wC ad cA) (tC cA) [.ref (ad 2), .int p1, .int p2] sz σ res := by
  refine ty_ofW (cc := cX4_wagonIn) (maxL := 3) (ret := (some .int)) (by decide) rfl ?_
  intro p e s m args below meth c s₁ B hml ht9 hv
  obtain ⟨rfl, ⟨hsz, hP, hK, hD0, hNN⟩, hOK⟩ := hv
  have hx := B.exec
  have hb := B.bytes
  have hr := B.returns
  have hts := atoms_spec (ws := wsX4_wagonIn) B.pre
  have hown : s.vm.findClass RX4 = some m.cls := findClass_of_methodNamed B.named
  have hlocks := B.notSynchronized
  subst hsz
  have hD := hD0.self (sz := s.heap.size)
  generalize hAe : va_A (wC ad cA σ) s.heap.size = A at hD hOK ⊢
  have hA : ∀ q : Nat, s.heap.size ≤ q → A q := fun q h => by rw [← hAe]; exact Or.inr h
  clear hAe hD0
  have hS : va_S A s.heap s.heap [] := va_S.rf
  have hl := lv_entry ([.ref (ad 2), .int p1, .int p2]) (n := 3) (Nat.le_of_ble_eq_true rfl)
  rw [lg_entry_eq]
  generalize (lg_sl ([.ref (ad 2), .int p1, .int p2]) ++ List.replicate (3 - (lg_sl ([.ref (ad 2), .int p1, .int p2])).length) Slot.unset).toArray = ls at hl ⊢
  have hl : lv_has ls 3 [(0, .ref (ad 2)), (1, .int p1), (2, .int p2)] := hl
  have hS9 : CallFix p m c cX4_wagonIn 3 s _ wsX4_wagonIn RX4 := ⟨hx, hb, hml, hown, hts⟩
  have hw0 := hts (.classLink RX4 261 "java/lang/IndexOutOfBoundsException") (List.mem_cons_of_mem _ (List.mem_of_getElem? (i := 0) rfl))
  have hw1 := hts (.initialized "java/lang/IndexOutOfBoundsException") (List.mem_cons_of_mem _ (List.mem_of_getElem? (i := 1) rfl))
  unfold tyf_T_wagonIn2 at hF
  refine lv_iload_n hx hb dX4_wagonIn_0 rfl (lv_at hl 2 rfl) ?_
  refine lv_if_lt (tgt := 13) hx hb dX4_wagonIn_1 (by decide) (fun c_1 => ?_) (fun c_1 => ?_)
  · have hF := iteT hF c_1
    exact gx_throwSW (own := RX4) (cls := "java/lang/IndexOutOfBoundsException") (text := "there is no wagon at place") (k := 2) hx hb hl9 hown rfl (by decide +kernel) hw0 hw1 (fun w h => hts w (List.mem_cons_of_mem _ (List.mem_append_right _ h))) gnoX4_265 ggdX4_261_265 hOK (List.mem_of_getElem? (i := 32) rfl) (by rw [hml]; exact hl.1) ht9 hlocks hP hK hD hS dX4_wagonIn_13 dX4_wagonIn_16 dX4_wagonIn_17 dX4_wagonIn_20 dX4_wagonIn_23 ⟨by decide, by decide, by decide, by decide⟩ hF
  · have hF := iteF hF c_1
    refine lv_iload_n hx hb dX4_wagonIn_4 rfl (lv_at hl 2 rfl) ?_
    refine lv_aload_n hx hb dX4_wagonIn_5 rfl (lv_at hl 0 rfl) ?_
    refine lv_iload_n hx hb dX4_wagonIn_6 rfl (lv_at hl 1 rfl) ?_
    obtain ⟨r2, er2, hF⟩ := bR_some hF
    refine gc_Vi (As := [.int p1]) hS9 (tyc_R2_count l D ad cA _ σ p1 r2 er2) (cwV 1 hts gX4_wagonIn_X2_count rfl rfl rfl hd_X2_count ⟨by decide, by decide⟩) hK hP hD hS hA hNN (ci := 2) (q0 := 2) (N := 2) rfl (wC_2 ad cA σ) rfl hl.1 rfl (Nat.le_of_ble_eq_true rfl) dX4_wagonIn_7 (fun H locs hP hD hS => ?_)
    refine lv_icmp_lt (tgt := 24) hx hb dX4_wagonIn_10 (by decide) (fun c_3 => ?_) (fun c_3 => ?_)
    · have hF := iteT hF c_3
      refine lv_aload_n hx hb dX4_wagonIn_24 rfl (lv_at hl 0 rfl) ?_
      refine lv_iload_n hx hb dX4_wagonIn_25 rfl (lv_at hl 1 rfl) ?_
      refine lv_iload_n hx hb dX4_wagonIn_26 rfl (lv_at hl 2 rfl) ?_
      obtain ⟨r4, er4, hF⟩ := bR_some hF
      refine gc_Vi (As := [.int p1, .int p2]) hS9 (tyc_R2_get l D ad cA _ σ p1 p2 r4 er4) (cwV 2 hts gX4_wagonIn_X2_get rfl rfl rfl hd_X2_get ⟨by decide, by decide⟩) hK hP hD hS hA hNN (ci := 2) (q0 := 2) (N := 2) rfl (wC_2 ad cA σ) rfl hl.1 rfl (Nat.le_of_ble_eq_true rfl) dX4_wagonIn_27 (fun H locs hP hD hS => ?_)
      exact g_iretX hx hb hr rfl hlocks hP hK hD hS dX4_wagonIn_30 hF
    · have hF := iteF hF c_3
      exact gx_throwSW (own := RX4) (cls := "java/lang/IndexOutOfBoundsException") (text := "there is no wagon at place") (k := 2) hx hb hl9 hown rfl (by decide +kernel) hw0 hw1 (fun w h => hts w (List.mem_cons_of_mem _ (List.mem_append_right _ h))) gnoX4_265 ggdX4_261_265 hOK (List.mem_of_getElem? (i := 32) rfl) (by rw [hml]; exact hl.1) ht9 hlocks hP hK hD hS dX4_wagonIn_13 dX4_wagonIn_16 dX4_wagonIn_17 dX4_wagonIn_20 dX4_wagonIn_23 ⟨by decide, by decide, by decide, by decide⟩ hF
set_option maxHeartbeats 4000000 in
set_option maxRecDepth 100000 in
theorem tyc_T_atByReplay (l : Launch) (D : va_G) (ad : Nat → Nat) (cA : Nat → ClassId) (sz : Nat) (σ : tyS) (p1 : Int32) (p2 : Int32) (p3 : Int32) (res : tyX) (hl9 : l.stackTraces = false) (hF : tyf_T_atByReplay σ p1 p2 p3 = some res) : gXi gStr l yX4_atByReplay wsX4_atByReplay ({ frames := 7, cells := 1, slots := 6, locals := 104 } : Room) D (wC ad cA) (tC cA) [.ref (ad 0), .int p1, .int p2, .int p3] sz σ res := by
  refine ty_ofW (cc := cX4_atByReplay) (maxL := 4) (ret := (some .int)) (by decide) rfl ?_
  intro p e s m args below meth c s₁ B hml ht9 hv
  obtain ⟨rfl, ⟨hsz, hP, hK, hD0, hNN⟩, hOK⟩ := hv
  have hx := B.exec
  have hb := B.bytes
  have hr := B.returns
  have hts := atoms_spec (ws := wsX4_atByReplay) B.pre
  have hown : s.vm.findClass RX4 = some m.cls := findClass_of_methodNamed B.named
  have hlocks := B.notSynchronized
  subst hsz
  have hD := hD0.self (sz := s.heap.size)
  generalize hAe : va_A (wC ad cA σ) s.heap.size = A at hD hOK ⊢
  have hA : ∀ q : Nat, s.heap.size ≤ q → A q := fun q h => by rw [← hAe]; exact Or.inr h
  clear hAe hD0
  have hS : va_S A s.heap s.heap [] := va_S.rf
  have hl := lv_entry ([.ref (ad 0), .int p1, .int p2, .int p3]) (n := 4) (Nat.le_of_ble_eq_true rfl)
  rw [lg_entry_eq]
  generalize (lg_sl ([.ref (ad 0), .int p1, .int p2, .int p3]) ++ List.replicate (4 - (lg_sl ([.ref (ad 0), .int p1, .int p2, .int p3])).length) Slot.unset).toArray = ls at hl ⊢
  have hl : lv_has ls 4 [(0, .ref (ad 0)), (1, .int p1), (2, .int p2), (3, .int p3)] := hl
  have hS9 : CallFix p m c cX4_atByReplay 4 s _ wsX4_atByReplay RX4 := ⟨hx, hb, hml, hown, hts⟩
  have hw0 := hts (.fieldLink RX4 22 "TrunkYards" "history" "LTrunkYards$History;") (List.mem_cons_of_mem _ (List.mem_of_getElem? (i := 0) rfl))
  have hiX4 : ∀ w ∈ wsX40, w ∈ wsX4_atByReplay := fun w h => List.mem_cons_of_mem _ (List.mem_append_left _ (List.mem_append_left _ (List.mem_append_left _ (List.mem_append_left _ (List.mem_append_right _ h)))))
  have hw2 := hts (.fieldLink RX4 16 "TrunkYards" "replayed" "LTrunkYards$Rows;") (List.mem_cons_of_mem _ (List.mem_of_getElem? (i := 1) rfl))
  unfold tyf_T_atByReplay at hF
  refine lv_iload_n hx hb dX4_atByReplay_0 rfl (lv_at hl 1 rfl) ?_
  refine lv_iload_n hx hb dX4_atByReplay_1 rfl (lv_at hl 2 rfl) ?_
  rcases bX_some hF with ⟨kr2, r2, σ1, er2, hF⟩ | ⟨r2, σ1, er2, hF⟩
  · exact gx_T (gx_runS (As := [.int p1, .int p2]) (Qc := gQXv D (wC ad cA) (tC cA) _ _) hS9 (tyc_T_requireTrack l D ad cA _ σ p1 p2 _ hl9 er2) (va_cwS 2 hts gX4_atByReplay_X4_requireTrack rfl rfl rfl hd_X4_requireTrack ⟨by decide, by decide⟩) hOK hK hP hD hS hA hNN rfl hl.1 rfl (Nat.le_of_ble_eq_true rfl) dX4_atByReplay_2 ⟨by decide, by decide⟩) (gx_nov rfl) rfl hF ht9 hlocks hK hD hS hA
  refine gx_Rv (rest2 := ([.int p1, .int p2])) (gx_runS (As := [.int p1, .int p2]) (Qc := gQXv D (wC ad cA) (tC cA) _ _) hS9 (tyc_T_requireTrack l D ad cA _ σ p1 p2 _ hl9 er2) (va_cwS 2 hts gX4_atByReplay_X4_requireTrack rfl rfl rfl hd_X4_requireTrack ⟨by decide, by decide⟩) hOK hK hP hD hS hA hNN rfl hl.1 rfl (Nat.le_of_ble_eq_true rfl) dX4_atByReplay_2 ⟨by decide, by decide⟩) rfl hK hD hS hA (fun H locs hP hD hS => ?_)
  refine lv_aload_n hx hb dX4_atByReplay_5 rfl (lv_at hl 0 rfl) ?_
  refine va_get (D := D) (ci := 4) (v := .ref (ad 3)) (C := RX4) (T := TX4) (N := 12) hx hb hts hiX4 hown hK hP 0 (wC_0 ad cA σ1) rfl 2 (by decide) hw0 (fun _ h9 => h9) rfl dX4_atByReplay_6 ?_
  refine lv_aload_n hx hb dX4_atByReplay_9 rfl (lv_at hl 0 rfl) ?_
  refine va_get (D := D) (ci := 4) (v := .ref (ad 2)) (C := RX4) (T := TX4) (N := 12) hx hb hts hiX4 hown hK hP 0 (wC_0 ad cA σ1) rfl 1 (by decide) hw2 (fun _ h9 => h9) rfl dX4_atByReplay_10 ?_
  obtain ⟨σ3, e3, hF⟩ := bR_some hF
  refine gc_Vv (As := [.ref (ad 2)]) hS9 (tyc_H_replay l D ad cA _ σ1  σ3 e3) (cwV 1 hts gX4_atByReplay_X0_replay rfl rfl rfl hd_X0_replay ⟨by decide, by decide⟩) hK hP hD hS hA hNN (ci := 0) (q0 := 3) (N := 4) rfl (wC_3 ad cA σ1) rfl hl.1 rfl (Nat.le_of_ble_eq_true rfl) dX4_atByReplay_13 (fun H locs hP hD hS => ?_)
  refine lv_aload_n hx hb dX4_atByReplay_16 rfl (lv_at hl 0 rfl) ?_
  refine va_get (D := D) (ci := 4) (v := .ref (ad 2)) (C := RX4) (T := TX4) (N := 12) hx hb hts hiX4 hown hK hP 0 (wC_0 ad cA σ3) rfl 1 (by decide) hw2 (fun _ h9 => h9) rfl dX4_atByReplay_17 ?_
  refine lv_iload_n hx hb dX4_atByReplay_20 rfl (lv_at hl 1 rfl) ?_
  refine lv_iload_n hx hb dX4_atByReplay_21 rfl (lv_at hl 2 rfl) ?_
  obtain ⟨r4, er4, hF⟩ := bR_some hF
  refine gc_Si (As := [.int p1, .int p2]) hS9 (tyc_T_rowOf l D ad cA _ σ3 p1 p2 r4 er4) (va_cwS 2 hts gX4_atByReplay_X4_rowOf rfl rfl rfl hd_X4_rowOf ⟨by decide, by decide⟩) hK hP hD hS hA hNN rfl hl.1 rfl (Nat.le_of_ble_eq_true rfl) dX4_atByReplay_22 (fun H locs hP hD hS => ?_)
  refine lv_iload_n hx hb dX4_atByReplay_25 rfl (lv_at hl 3 rfl) ?_
  rcases bX_some hF with ⟨kr6, r6, σ5, er6, hF⟩ | ⟨r6, σ5, er6, hF⟩
  · exact gx_T (gx_runS (As := [.ref (ad 2), .int r4, .int p3]) (Qc := gQXi D (wC ad cA) (tC cA) _ _) hS9 (tyc_T_wagonIn2 l D ad cA _ σ3 r4 p3 _ hl9 er6) (va_cwS 3 hts gX4_atByReplay_X4_wagonIn rfl rfl rfl hd_X4_wagonIn ⟨by decide, by decide⟩) hOK hK hP hD hS hA hNN rfl hl.1 rfl (Nat.le_of_ble_eq_true rfl) dX4_atByReplay_26 ⟨by decide, by decide⟩) (gx_noi rfl) rfl hF ht9 hlocks hK hD hS hA
  refine gx_Ri (rest2 := ([.ref (ad 2), .int r4, .int p3])) (gx_runS (As := [.ref (ad 2), .int r4, .int p3]) (Qc := gQXi D (wC ad cA) (tC cA) _ _) hS9 (tyc_T_wagonIn2 l D ad cA _ σ3 r4 p3 _ hl9 er6) (va_cwS 3 hts gX4_atByReplay_X4_wagonIn rfl rfl rfl hd_X4_wagonIn ⟨by decide, by decide⟩) hOK hK hP hD hS hA hNN rfl hl.1 rfl (Nat.le_of_ble_eq_true rfl) dX4_atByReplay_26 ⟨by decide, by decide⟩) rfl hK hD hS hA (fun H locs hP hD hS => ?_)
  exact g_iretX hx hb hr rfl hlocks hP hK hD hS dX4_atByReplay_29 hF
set_option maxHeartbeats 4000000 in
set_option maxRecDepth 100000 in
theorem tyc_T_requireWagon (l : Launch) (D : va_G) (ad : Nat → Nat) (cA : Nat → ClassId) (sz : Nat) (σ : tyS) (p1 : Int32) (res : tyX) (hl9 : l.stackTraces = false) (hF : tyf_T_requireWagon σ p1 = some res) : gXv gStr l yX4_requireWagon wsX4_requireWagon ({ frames := 6, cells := 1, slots := 6, locals := 82 } : Room) D (wC ad cA) (tC cA) [.ref (ad 0), .int p1] sz σ res := by
  refine ty_ofW (cc := cX4_requireWagon) (maxL := 2) (ret := none) (by decide) rfl ?_
  intro p e s m args below meth c s₁ B hml ht9 hv
  obtain ⟨rfl, ⟨hsz, hP, hK, hD0, hNN⟩, hOK⟩ := hv
  have hx := B.exec
  have hb := B.bytes
  have hr := B.returns
  have hts := atoms_spec (ws := wsX4_requireWagon) B.pre
  have hown : s.vm.findClass RX4 = some m.cls := findClass_of_methodNamed B.named
  have hlocks := B.notSynchronized
  subst hsz
  have hD := hD0.self (sz := s.heap.size)
  generalize hAe : va_A (wC ad cA σ) s.heap.size = A at hD hOK ⊢
  have hA : ∀ q : Nat, s.heap.size ≤ q → A q := fun q h => by rw [← hAe]; exact Or.inr h
  clear hAe hD0
  have hS : va_S A s.heap s.heap [] := va_S.rf
  have hl := lv_entry ([.ref (ad 0), .int p1]) (n := 2) (Nat.le_of_ble_eq_true rfl)
  rw [lg_entry_eq]
  generalize (lg_sl ([.ref (ad 0), .int p1]) ++ List.replicate (2 - (lg_sl ([.ref (ad 0), .int p1])).length) Slot.unset).toArray = ls at hl ⊢
  have hl : lv_has ls 2 [(0, .ref (ad 0)), (1, .int p1)] := hl
  have hw0 := hts (.classLink RX4 261 "java/lang/IndexOutOfBoundsException") (List.mem_cons_of_mem _ (List.mem_of_getElem? (i := 0) rfl))
  have hw1 := hts (.initialized "java/lang/IndexOutOfBoundsException") (List.mem_cons_of_mem _ (List.mem_of_getElem? (i := 1) rfl))
  have hw2 := hts (.fieldLink RX4 65 "TrunkYards" "placed" "I") (List.mem_cons_of_mem _ (List.mem_of_getElem? (i := 2) rfl))
  have hiX4 : ∀ w ∈ wsX40, w ∈ wsX4_requireWagon := fun w h => List.mem_cons_of_mem _ (List.mem_append_left _ (List.mem_append_right _ h))
  unfold tyf_T_requireWagon at hF
  refine lv_iload_n hx hb dX4_requireWagon_0 rfl (lv_at hl 1 rfl) ?_
  refine lv_if_lt (tgt := 12) hx hb dX4_requireWagon_1 (by decide) (fun c_1 => ?_) (fun c_1 => ?_)
  · have hF := iteT hF c_1
    exact gx_throwSW (own := RX4) (cls := "java/lang/IndexOutOfBoundsException") (text := "there is no such wagon") (k := 2) hx hb hl9 hown rfl (by decide +kernel) hw0 hw1 (fun w h => hts w (List.mem_cons_of_mem _ (List.mem_append_right _ h))) gnoX4_265 ggdX4_261_265 hOK (List.mem_of_getElem? (i := 28) rfl) (by rw [hml]; exact hl.1) ht9 hlocks hP hK hD hS dX4_requireWagon_12 dX4_requireWagon_15 dX4_requireWagon_16 dX4_requireWagon_19 dX4_requireWagon_22 ⟨by decide, by decide, by decide, by decide⟩ hF
  · have hF := iteF hF c_1
    refine lv_iload_n hx hb dX4_requireWagon_4 rfl (lv_at hl 1 rfl) ?_
    refine lv_aload_n hx hb dX4_requireWagon_5 rfl (lv_at hl 0 rfl) ?_
    refine va_get (D := D) (ci := 4) (v := .int (σ.2 0)) (C := RX4) (T := TX4) (N := 12) hx hb hts hiX4 hown hK hP 0 (wC_0 ad cA σ) rfl 8 (by decide) hw2 (fun _ h9 => h9) rfl dX4_requireWagon_6 ?_
    refine lv_icmp_lt (tgt := 23) hx hb dX4_requireWagon_9 (by decide) (fun c_2 => ?_) (fun c_2 => ?_)
    · have hF := iteT hF c_2
      exact g_vretX hx hb hr hlocks hP hK hD hS dX4_requireWagon_23 hF
    · have hF := iteF hF c_2
      exact gx_throwSW (own := RX4) (cls := "java/lang/IndexOutOfBoundsException") (text := "there is no such wagon") (k := 2) hx hb hl9 hown rfl (by decide +kernel) hw0 hw1 (fun w h => hts w (List.mem_cons_of_mem _ (List.mem_append_right _ h))) gnoX4_265 ggdX4_261_265 hOK (List.mem_of_getElem? (i := 28) rfl) (by rw [hml]; exact hl.1) ht9 hlocks hP hK hD hS dX4_requireWagon_12 dX4_requireWagon_15 dX4_requireWagon_16 dX4_requireWagon_19 dX4_requireWagon_22 ⟨by decide, by decide, by decide, by decide⟩ hF
set_option maxHeartbeats 4000000 in
set_option maxRecDepth 100000 in
theorem tyc_R1_findOnTracks (l : Launch) (D : va_G) (ad : Nat → Nat) (cA : Nat → ClassId) (sz : Nat) (σ : tyS) (p1 : Int32) (r : Int32) (hF : tyf_R1_findOnTracks σ p1 = some r) : gMi l yX2_findOnTracks wsX2_findOnTracks ({ frames := 1, cells := 0, slots := 0, locals := 22 } : Room) D (wC ad cA) (tC cA) [.ref (ad 1), .int p1] sz σ r σ := by
  refine Met.ofW (cc := cX2_findOnTracks) (maxL := 4) (ret := (some .int)) (by decide) rfl ?_
  intro p e s m args below meth c s₁ B hml hv
  obtain ⟨rfl, hsz, hP, hK, hD0, hNN⟩ := hv
  have hx := B.exec
  have hb := B.bytes
  have hr := B.returns
  have hts := atoms_spec (ws := wsX2_findOnTracks) B.pre
  have hown : s.vm.findClass RX2 = some m.cls := findClass_of_methodNamed B.named
  have hlocks := B.notSynchronized
  subst hsz
  have hD := hD0.self (sz := s.heap.size)
  generalize hAe : va_A (wC ad cA σ) s.heap.size = A at hD ⊢
  have hA : ∀ q : Nat, s.heap.size ≤ q → A q := fun q h => by rw [← hAe]; exact Or.inr h
  clear hAe hD0
  have hS : va_S A s.heap s.heap [] := va_S.rf
  have hl := lv_entry ([.ref (ad 1), .int p1]) (n := 4) (Nat.le_of_ble_eq_true rfl)
  rw [lg_entry_eq]
  generalize (lg_sl ([.ref (ad 1), .int p1]) ++ List.replicate (4 - (lg_sl ([.ref (ad 1), .int p1])).length) Slot.unset).toArray = ls at hl ⊢
  have hl : lv_has ls 4 [(0, .ref (ad 1)), (1, .int p1)] := hl
  have hS9 : CallFix p m c cX2_findOnTracks 4 s _ wsX2_findOnTracks RX2 := ⟨hx, hb, hml, hown, hts⟩
  have hw0 := hts (.fieldLink RX2 9 "TrunkYards$Rows" "counts" "[I") (List.mem_cons_of_mem _ (List.mem_of_getElem? (i := 0) rfl))
  have hiX2 : ∀ w ∈ wsX20, w ∈ wsX2_findOnTracks := fun w h => List.mem_cons_of_mem _ (List.mem_append_right _ h)
  unfold tyf_R1_findOnTracks at hF
  refine lv_iconst (v := 0) hx hb dX2_findOnTracks_0 (by decide) ?_
  refine lv_istore_n (lv' := [(2, .int 0), (0, .ref (ad 1)), (1, .int p1)]) hx hb dX2_findOnTracks_1 rfl hl (by decide) rfl (fun ls hl => ?_)
  have lp2 : ∀ (k : Int32 → Int32 → Option Int32), (∀ (x1 : Int32) (x2 : Int32) , k x1 x2 = some r → ∀ (H : Heap) (locs : List Loc) (ls : Array Slot), va_P D vwCl (wC ad cA σ) H → va_D A (wC ad cA σ) → va_S A s.heap H locs → lv_has ls 4 [(0, .ref (ad 1)), (1, .int x1), (2, .int x2)] → W p l e (headSpec wsX2_findOnTracks ({ frames := 1, cells := 0, slots := 0, locals := 22 } : Room)).room s m #[.ref (ad 1), .int p1] below meth c H locs 0 0 (MQ below (gQi D (wC ad cA) (tC cA) A r σ) #[.ref (ad 1), .int p1] s 0 0 A) (F0 m 44 ls [])) → ∀ (n : Nat), ∀ (x1 : Int32) (x2 : Int32) , tyl_R1_findOnTracks_2 σ k n x1 x2 = some r → ∀ (H : Heap) (locs : List Loc) (ls : Array Slot), va_P D vwCl (wC ad cA σ) H → va_D A (wC ad cA σ) → va_S A s.heap H locs → lv_has ls 4 [(0, .ref (ad 1)), (1, .int x1), (2, .int x2)] → W p l e (headSpec wsX2_findOnTracks ({ frames := 1, cells := 0, slots := 0, locals := 22 } : Room)).room s m #[.ref (ad 1), .int p1] below meth c H locs 0 0 (MQ below (gQi D (wC ad cA) (tC cA) A r σ) #[.ref (ad 1), .int p1] s 0 0 A) (F0 m 2 ls []) := by
    intro k hk n
    induction n with
    | zero =>
      intro x1 x2 hF
      exact absurd hF (fun h => nomatch h)
    | succ n ih =>
      intro x1 x2 hF H locs ls hP hD hS hl
      have hF : tyb_R1_findOnTracks_2 σ k (tyl_R1_findOnTracks_2 σ k n) x1 x2 = some r := hF
      unfold tyb_R1_findOnTracks_2 at hF
      refine lv_iload_n hx hb dX2_findOnTracks_2 rfl (lv_at hl 2 rfl) ?_
      refine lv_bipush (v := 15) hx hb dX2_findOnTracks_3 (by decide) ?_
      refine lv_icmp_ge (tgt := 44) hx hb dX2_findOnTracks_5 (by decide) (fun c_1 => ?_) (fun c_1 => ?_)
      · have hF := iteT hF c_1
        exact hk  x1 x2 hF _ _ _ hP hD hS (lv_sub hl [0, 1, 2] rfl)
      · have hF := iteF hF c_1
        refine lv_iconst (v := 0) hx hb dX2_findOnTracks_8 (by decide) ?_
        refine lv_istore_n (lv' := [(3, .int 0), (0, .ref (ad 1)), (1, .int x1), (2, .int x2)]) hx hb dX2_findOnTracks_9 rfl hl (by decide) rfl (fun ls hl => ?_)
        have lp10 : ∀ (k : Int32 → Int32 → Int32 → Option Int32), (∀ (x1 : Int32) (x2 : Int32) (x3 : Int32) , k x1 x2 x3 = some r → ∀ (H : Heap) (locs : List Loc) (ls : Array Slot), va_P D vwCl (wC ad cA σ) H → va_D A (wC ad cA σ) → va_S A s.heap H locs → lv_has ls 4 [(0, .ref (ad 1)), (1, .int x1), (2, .int x2), (3, .int x3)] → W p l e (headSpec wsX2_findOnTracks ({ frames := 1, cells := 0, slots := 0, locals := 22 } : Room)).room s m #[.ref (ad 1), .int p1] below meth c H locs 0 0 (MQ below (gQi D (wC ad cA) (tC cA) A r σ) #[.ref (ad 1), .int p1] s 0 0 A) (F0 m 38 ls [])) → ∀ (n : Nat), ∀ (x1 : Int32) (x2 : Int32) (x3 : Int32) , tyl_R1_findOnTracks_10 σ k n x1 x2 x3 = some r → ∀ (H : Heap) (locs : List Loc) (ls : Array Slot), va_P D vwCl (wC ad cA σ) H → va_D A (wC ad cA σ) → va_S A s.heap H locs → lv_has ls 4 [(0, .ref (ad 1)), (1, .int x1), (2, .int x2), (3, .int x3)] → W p l e (headSpec wsX2_findOnTracks ({ frames := 1, cells := 0, slots := 0, locals := 22 } : Room)).room s m #[.ref (ad 1), .int p1] below meth c H locs 0 0 (MQ below (gQi D (wC ad cA) (tC cA) A r σ) #[.ref (ad 1), .int p1] s 0 0 A) (F0 m 10 ls []) := by
          intro k hk n
          induction n with
          | zero =>
            intro x1 x2 x3 hF
            exact absurd hF (fun h => nomatch h)
          | succ n ih =>
            intro x1 x2 x3 hF H locs ls hP hD hS hl
            have hF : tyb_R1_findOnTracks_10 σ k (tyl_R1_findOnTracks_10 σ k n) x1 x2 x3 = some r := hF
            unfold tyb_R1_findOnTracks_10 at hF
            refine lv_iload_n hx hb dX2_findOnTracks_10 rfl (lv_at hl 3 rfl) ?_
            refine lv_aload_n hx hb dX2_findOnTracks_11 rfl (lv_at hl 0 rfl) ?_
            refine va_get (D := D) (ci := 2) (v := .ref (ad 6)) (C := RX2) (T := TX2) (N := 2) hx hb hts hiX2 hown hK hP 1 (wC_1 ad cA σ) rfl 0 (by decide) hw0 (fun _ h9 => h9) rfl dX2_findOnTracks_12 ?_
            refine lv_iload_n hx hb dX2_findOnTracks_15 rfl (lv_at hl 2 rfl) ?_
            obtain ⟨hb_2, hF⟩ := chk_some hF
            refine va_iald hx hb hK hP 6 0 (wC_6 ad cA σ) (tC_6 cA) hb_2 dX2_findOnTracks_16 ?_
            refine lv_icmp_ge (tgt := 38) hx hb dX2_findOnTracks_17 (by decide) (fun c_3 => ?_) (fun c_3 => ?_)
            · have hF := iteT hF c_3
              exact hk  x1 x2 x3 hF _ _ _ hP hD hS (lv_sub hl [0, 1, 2, 3] rfl)
            · have hF := iteF hF c_3
              refine lv_aload_n hx hb dX2_findOnTracks_20 rfl (lv_at hl 0 rfl) ?_
              refine lv_iload_n hx hb dX2_findOnTracks_21 rfl (lv_at hl 2 rfl) ?_
              refine lv_iload_n hx hb dX2_findOnTracks_22 rfl (lv_at hl 3 rfl) ?_
              obtain ⟨r4, er4, hF⟩ := bR_some hF
              refine gc_Vi (As := [.int x2, .int x3]) hS9 (tyc_R1_get l D ad cA _ σ x2 x3 r4 er4) (cwV 2 hts gX2_findOnTracks_X2_get rfl rfl rfl hd_X2_get ⟨by decide, by decide⟩) hK hP hD hS hA hNN (ci := 2) (q0 := 1) (N := 2) rfl (wC_1 ad cA σ) rfl hl.1 rfl (Nat.le_of_ble_eq_true rfl) dX2_findOnTracks_23 (fun H locs hP hD hS => ?_)
              refine lv_iload_n hx hb dX2_findOnTracks_26 rfl (lv_at hl 1 rfl) ?_
              refine lv_icmp_ne (tgt := 32) hx hb dX2_findOnTracks_27 (by decide) (fun c_5 => ?_) (fun c_5 => ?_)
              · have hF := iteF hF c_5
                refine lv_iinc (v := (x3 + 1)) (lv' := [(3, .int (x3 + 1)), (0, .ref (ad 1)), (1, .int x1), (2, .int x2)]) hx hb dX2_findOnTracks_32 hl (k := 3) rfl rfl (by decide) rfl (fun ls hl => ?_)
                refine lv_goto (tgt := 10) hx hb dX2_findOnTracks_35 (by decide) ?_
                exact ih  x1 x2 (x3 + 1) hF _ _ _ hP hD hS (lv_sub hl [1, 2, 3, 0] rfl)
              · have hF := iteT hF c_5
                refine lv_iload_n hx hb dX2_findOnTracks_30 rfl (lv_at hl 2 rfl) ?_
                exact g_iretR hx hb hr rfl hlocks hP hK hD hS dX2_findOnTracks_31 hF
        refine lp10 _ ?_ 64  x1 x2 0 hF _ _ _ hP hD hS (lv_sub hl [1, 2, 3, 0] rfl)
        intro x1 x2 x3 hF H locs ls hP hD hS hl
        refine lv_iinc (v := (x2 + 1)) (lv' := [(2, .int (x2 + 1)), (0, .ref (ad 1)), (1, .int x1), (3, .int x3)]) hx hb dX2_findOnTracks_38 hl (k := 2) rfl rfl (by decide) rfl (fun ls hl => ?_)
        refine lv_goto (tgt := 2) hx hb dX2_findOnTracks_41 (by decide) ?_
        exact ih  x1 (x2 + 1) hF _ _ _ hP hD hS (lv_sub hl [1, 2, 0] rfl)
  refine lp2 _ ?_ 64  p1 0 hF _ _ _ hP hD hS (lv_sub hl [1, 2, 0] rfl)
  intro x1 x2 hF H locs ls hP hD hS hl
  refine lv_iconst (v := (-1)) hx hb dX2_findOnTracks_44 (by decide) ?_
  exact g_iretR hx hb hr rfl hlocks hP hK hD hS dX2_findOnTracks_45 hF
set_option maxHeartbeats 4000000 in
set_option maxRecDepth 100000 in
theorem tyc_T_where (l : Launch) (D : va_G) (ad : Nat → Nat) (cA : Nat → ClassId) (sz : Nat) (σ : tyS) (p1 : Int32) (res : tyX) (hl9 : l.stackTraces = false) (hF : tyf_T_where σ p1 = some res) : gXi gStr l yX4_where wsX4_where ({ frames := 7, cells := 1, slots := 6, locals := 103 } : Room) D (wC ad cA) (tC cA) [.ref (ad 0), .int p1] sz σ res := by
  refine ty_ofW (cc := cX4_where) (maxL := 3) (ret := (some .int)) (by decide) rfl ?_
  intro p e s m args below meth c s₁ B hml ht9 hv
  obtain ⟨rfl, ⟨hsz, hP, hK, hD0, hNN⟩, hOK⟩ := hv
  have hx := B.exec
  have hb := B.bytes
  have hr := B.returns
  have hts := atoms_spec (ws := wsX4_where) B.pre
  have hown : s.vm.findClass RX4 = some m.cls := findClass_of_methodNamed B.named
  have hlocks := B.notSynchronized
  subst hsz
  have hD := hD0.self (sz := s.heap.size)
  generalize hAe : va_A (wC ad cA σ) s.heap.size = A at hD hOK ⊢
  have hA : ∀ q : Nat, s.heap.size ≤ q → A q := fun q h => by rw [← hAe]; exact Or.inr h
  clear hAe hD0
  have hS : va_S A s.heap s.heap [] := va_S.rf
  have hl := lv_entry ([.ref (ad 0), .int p1]) (n := 3) (Nat.le_of_ble_eq_true rfl)
  rw [lg_entry_eq]
  generalize (lg_sl ([.ref (ad 0), .int p1]) ++ List.replicate (3 - (lg_sl ([.ref (ad 0), .int p1])).length) Slot.unset).toArray = ls at hl ⊢
  have hl : lv_has ls 3 [(0, .ref (ad 0)), (1, .int p1)] := hl
  have hS9 : CallFix p m c cX4_where 3 s _ wsX4_where RX4 := ⟨hx, hb, hml, hown, hts⟩
  have hw0 := hts (.fieldLink RX4 12 "TrunkYards" "rows" "LTrunkYards$Rows;") (List.mem_cons_of_mem _ (List.mem_of_getElem? (i := 0) rfl))
  have hiX4 : ∀ w ∈ wsX40, w ∈ wsX4_where := fun w h => List.mem_cons_of_mem _ (List.mem_append_left _ (List.mem_append_left _ (List.mem_append_right _ h)))
  unfold tyf_T_where at hF
  refine lv_aload_n hx hb dX4_where_0 rfl (lv_at hl 0 rfl) ?_
  refine lv_iload_n hx hb dX4_where_1 rfl (lv_at hl 1 rfl) ?_
  rcases bX_some hF with ⟨kr2, r2, σ1, er2, hF⟩ | ⟨r2, σ1, er2, hF⟩
  · exact gx_T (gx_runV (As := [.int p1]) (Qc := gQXv D (wC ad cA) (tC cA) _ _) hS9 (tyc_T_requireWagon l D ad cA _ σ p1 _ hl9 er2) (cwV 1 hts gX4_where_X4_requireWagon rfl rfl rfl hd_X4_requireWagon ⟨by decide, by decide⟩) hOK hK hP hD hS hA hNN (ci := 4) (q0 := 0) (N := 12) rfl (wC_0 ad cA σ) rfl hl.1 rfl (Nat.le_of_ble_eq_true rfl) dX4_where_2 ⟨by decide, by decide⟩) (gx_nov rfl) rfl hF ht9 hlocks hK hD hS hA
  refine gx_Rv (rest2 := (.ref (ad 0) :: [.int p1])) (gx_runV (As := [.int p1]) (Qc := gQXv D (wC ad cA) (tC cA) _ _) hS9 (tyc_T_requireWagon l D ad cA _ σ p1 _ hl9 er2) (cwV 1 hts gX4_where_X4_requireWagon rfl rfl rfl hd_X4_requireWagon ⟨by decide, by decide⟩) hOK hK hP hD hS hA hNN (ci := 4) (q0 := 0) (N := 12) rfl (wC_0 ad cA σ) rfl hl.1 rfl (Nat.le_of_ble_eq_true rfl) dX4_where_2 ⟨by decide, by decide⟩) rfl hK hD hS hA (fun H locs hP hD hS => ?_)
  refine lv_aload_n hx hb dX4_where_5 rfl (lv_at hl 0 rfl) ?_
  refine va_get (D := D) (ci := 4) (v := .ref (ad 1)) (C := RX4) (T := TX4) (N := 12) hx hb hts hiX4 hown hK hP 0 (wC_0 ad cA σ1) rfl 0 (by decide) hw0 (fun _ h9 => h9) rfl dX4_where_6 ?_
  refine lv_iload_n hx hb dX4_where_9 rfl (lv_at hl 1 rfl) ?_
  obtain ⟨r3, er3, hF⟩ := bR_some hF
  refine gc_Vi (As := [.int p1]) hS9 (tyc_R1_findOnTracks l D ad cA _ σ1 p1 r3 er3) (cwV 1 hts gX4_where_X2_findOnTracks rfl rfl rfl hd_X2_findOnTracks ⟨by decide, by decide⟩) hK hP hD hS hA hNN (ci := 2) (q0 := 1) (N := 2) rfl (wC_1 ad cA σ1) rfl hl.1 rfl (Nat.le_of_ble_eq_true rfl) dX4_where_10 (fun H locs hP hD hS => ?_)
  refine lv_istore_n (lv' := [(2, .int r3), (0, .ref (ad 0)), (1, .int p1)]) hx hb dX4_where_13 rfl hl (by decide) rfl (fun ls hl => ?_)
  refine lv_iload_n hx hb dX4_where_14 rfl (lv_at hl 0 rfl) ?_
  refine lv_iconst (v := (-1)) hx hb dX4_where_15 (by decide) ?_
  refine lv_icmp_ne (tgt := 23) hx hb dX4_where_16 (by decide) (fun c_4 => ?_) (fun c_4 => ?_)
  · have hF := iteF hF c_4
    refine lv_iload_n hx hb dX4_where_23 rfl (lv_at hl 0 rfl) ?_
    refine lv_iconst (v := 5) hx hb dX4_where_24 (by decide) ?_
    refine lv_idiv hx hb dX4_where_25 (by decide) ?_
    refine lv_bipush (v := 10) hx hb dX4_where_26 (by decide) ?_
    refine lv_imul hx hb dX4_where_28 ?_
    refine lv_iload_n hx hb dX4_where_29 rfl (lv_at hl 0 rfl) ?_
    refine lv_iconst (v := 5) hx hb dX4_where_30 (by decide) ?_
    refine lv_irem hx hb dX4_where_31 (by decide) ?_
    refine lv_iadd hx hb dX4_where_32 ?_
    exact g_iretX hx hb hr rfl hlocks hP hK hD hS dX4_where_33 hF
  · have hF := iteT hF c_4
    refine lv_iconst (v := (-1)) hx hb dX4_where_19 (by decide) ?_
    refine lv_goto (tgt := 33) hx hb dX4_where_20 (by decide) ?_
    exact g_iretX hx hb hr rfl hlocks hP hK hD hS dX4_where_33 hF
set_option maxHeartbeats 4000000 in
set_option maxRecDepth 100000 in
theorem tyc_T_carried (l : Launch) (D : va_G) (ad : Nat → Nat) (cA : Nat → ClassId) (sz : Nat) (σ : tyS) (p1 : Int32) (res : tyX) (hl9 : l.stackTraces = false) (hF : tyf_T_carried σ p1 = some res) : gXi gStr l yX4_carried wsX4_carried ({ frames := 7, cells := 1, slots := 6, locals := 103 } : Room) D (wC ad cA) (tC cA) [.ref (ad 0), .int p1] sz σ res := by
  refine ty_ofW (cc := cX4_carried) (maxL := 2) (ret := (some .int)) (by decide) rfl ?_
  intro p e s m args below meth c s₁ B hml ht9 hv
  obtain ⟨rfl, ⟨hsz, hP, hK, hD0, hNN⟩, hOK⟩ := hv
  have hx := B.exec
  have hb := B.bytes
  have hr := B.returns
  have hts := atoms_spec (ws := wsX4_carried) B.pre
  have hown : s.vm.findClass RX4 = some m.cls := findClass_of_methodNamed B.named
  have hlocks := B.notSynchronized
  subst hsz
  have hD := hD0.self (sz := s.heap.size)
  generalize hAe : va_A (wC ad cA σ) s.heap.size = A at hD hOK ⊢
  have hA : ∀ q : Nat, s.heap.size ≤ q → A q := fun q h => by rw [← hAe]; exact Or.inr h
  clear hAe hD0
  have hS : va_S A s.heap s.heap [] := va_S.rf
  have hl := lv_entry ([.ref (ad 0), .int p1]) (n := 2) (Nat.le_of_ble_eq_true rfl)
  rw [lg_entry_eq]
  generalize (lg_sl ([.ref (ad 0), .int p1]) ++ List.replicate (2 - (lg_sl ([.ref (ad 0), .int p1])).length) Slot.unset).toArray = ls at hl ⊢
  have hl : lv_has ls 2 [(0, .ref (ad 0)), (1, .int p1)] := hl
  have hS9 : CallFix p m c cX4_carried 2 s _ wsX4_carried RX4 := ⟨hx, hb, hml, hown, hts⟩
  have hw0 := hts (.fieldLink RX4 40 "TrunkYards" "lastGrain" "[I") (List.mem_cons_of_mem _ (List.mem_of_getElem? (i := 0) rfl))
  have hiX4 : ∀ w ∈ wsX40, w ∈ wsX4_carried := fun w h => List.mem_cons_of_mem _ (List.mem_append_left _ (List.mem_append_right _ h))
  unfold tyf_T_carried at hF
  refine lv_aload_n hx hb dX4_carried_0 rfl (lv_at hl 0 rfl) ?_
  refine lv_iload_n hx hb dX4_carried_1 rfl (lv_at hl 1 rfl) ?_
  rcases bX_some hF with ⟨kr2, r2, σ1, er2, hF⟩ | ⟨r2, σ1, er2, hF⟩
  · exact gx_T (gx_runV (As := [.int p1]) (Qc := gQXv D (wC ad cA) (tC cA) _ _) hS9 (tyc_T_requireWagon l D ad cA _ σ p1 _ hl9 er2) (cwV 1 hts gX4_carried_X4_requireWagon rfl rfl rfl hd_X4_requireWagon ⟨by decide, by decide⟩) hOK hK hP hD hS hA hNN (ci := 4) (q0 := 0) (N := 12) rfl (wC_0 ad cA σ) rfl hl.1 rfl (Nat.le_of_ble_eq_true rfl) dX4_carried_2 ⟨by decide, by decide⟩) (gx_nov rfl) rfl hF ht9 hlocks hK hD hS hA
  refine gx_Rv (rest2 := (.ref (ad 0) :: [.int p1])) (gx_runV (As := [.int p1]) (Qc := gQXv D (wC ad cA) (tC cA) _ _) hS9 (tyc_T_requireWagon l D ad cA _ σ p1 _ hl9 er2) (cwV 1 hts gX4_carried_X4_requireWagon rfl rfl rfl hd_X4_requireWagon ⟨by decide, by decide⟩) hOK hK hP hD hS hA hNN (ci := 4) (q0 := 0) (N := 12) rfl (wC_0 ad cA σ) rfl hl.1 rfl (Nat.le_of_ble_eq_true rfl) dX4_carried_2 ⟨by decide, by decide⟩) rfl hK hD hS hA (fun H locs hP hD hS => ?_)
  refine lv_aload_n hx hb dX4_carried_5 rfl (lv_at hl 0 rfl) ?_
  refine va_get (D := D) (ci := 4) (v := .ref (ad 29)) (C := RX4) (T := TX4) (N := 12) hx hb hts hiX4 hown hK hP 0 (wC_0 ad cA σ1) rfl 5 (by decide) hw0 (fun _ h9 => h9) rfl dX4_carried_6 ?_
  refine lv_iload_n hx hb dX4_carried_9 rfl (lv_at hl 1 rfl) ?_
  obtain ⟨hb_3, hF⟩ := chk_some hF
  refine va_iald hx hb hK hP 29 23 (wC_29 ad cA σ1) (tC_29 cA) hb_3 dX4_carried_10 ?_
  exact g_iretX hx hb hr rfl hlocks hP hK hD hS dX4_carried_11 hF
