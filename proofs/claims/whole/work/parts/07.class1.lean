set_option maxHeartbeats 4000000 in
set_option maxRecDepth 100000 in
theorem tyc_T_isYard (l : Launch) (D : va_G) (ad : Nat → Nat) (cA : Nat → ClassId) (sz : Nat) (σ : tyS) (p0 : Int32) (r : Int32) (hF : tyf_T_isYard σ p0 = some r) : gMi l yX4_isYard wsX4_isYard ({ frames := 0, cells := 0, slots := 0, locals := 0 } : Room) D (wC ad cA) (tC cA) [.int p0] sz σ r σ := by
  refine Met.ofW (cc := cX4_isYard) (maxL := 1) (ret := (some .boolean)) (by decide) rfl ?_
  intro p e s m args below meth c s₁ B hml hv
  obtain ⟨rfl, hsz, hP, hK, hD0, hNN⟩ := hv
  have hx := B.exec
  have hb := B.bytes
  have hr := B.returns
  have hts := atoms_spec (ws := wsX4_isYard) B.pre
  have hown : s.vm.findClass RX4 = some m.cls := findClass_of_methodNamed B.named
  have hlocks := B.notSynchronized
  subst hsz
  have hD := hD0.self (sz := s.heap.size)
  generalize hAe : va_A (wC ad cA σ) s.heap.size = A at hD ⊢
  have hA : ∀ q : Nat, s.heap.size ≤ q → A q := fun q h => by rw [← hAe]; exact Or.inr h
  clear hAe hD0
  have hS : va_S A s.heap s.heap [] := va_S.rf
  have hl := lv_entry ([.int p0]) (n := 1) (Nat.le_of_ble_eq_true rfl)
  rw [lg_entry_eq]
  generalize (lg_sl ([.int p0]) ++ List.replicate (1 - (lg_sl ([.int p0])).length) Slot.unset).toArray = ls at hl ⊢
  have hl : lv_has ls 1 [(0, .int p0)] := hl
  unfold tyf_T_isYard at hF
  refine lv_iload_n hx hb dX4_isYard_0 rfl (lv_at hl 0 rfl) ?_
  refine lv_if_lt (tgt := 13) hx hb dX4_isYard_1 (by decide) (fun c_1 => ?_) (fun c_1 => ?_)
  · have hF := iteT hF c_1
    refine lv_iconst (v := 0) hx hb dX4_isYard_13 (by decide) ?_
    exact g_iretR hx hb hr rfl hlocks hP hK hD hS dX4_isYard_14 hF
  · have hF := iteF hF c_1
    refine lv_iload_n hx hb dX4_isYard_4 rfl (lv_at hl 0 rfl) ?_
    refine lv_iconst (v := 3) hx hb dX4_isYard_5 (by decide) ?_
    refine lv_icmp_ge (tgt := 13) hx hb dX4_isYard_6 (by decide) (fun c_2 => ?_) (fun c_2 => ?_)
    · have hF := iteT hF c_2
      refine lv_iconst (v := 0) hx hb dX4_isYard_13 (by decide) ?_
      exact g_iretR hx hb hr rfl hlocks hP hK hD hS dX4_isYard_14 hF
    · have hF := iteF hF c_2
      refine lv_iconst (v := 1) hx hb dX4_isYard_9 (by decide) ?_
      refine lv_goto (tgt := 14) hx hb dX4_isYard_10 (by decide) ?_
      exact g_iretR hx hb hr rfl hlocks hP hK hD hS dX4_isYard_14 hF
set_option maxHeartbeats 4000000 in
set_option maxRecDepth 100000 in
theorem tyc_T_isTrack (l : Launch) (D : va_G) (ad : Nat → Nat) (cA : Nat → ClassId) (sz : Nat) (σ : tyS) (p0 : Int32) (r : Int32) (hF : tyf_T_isTrack σ p0 = some r) : gMi l yX4_isTrack wsX4_isTrack ({ frames := 0, cells := 0, slots := 0, locals := 0 } : Room) D (wC ad cA) (tC cA) [.int p0] sz σ r σ := by
  refine Met.ofW (cc := cX4_isTrack) (maxL := 1) (ret := (some .boolean)) (by decide) rfl ?_
  intro p e s m args below meth c s₁ B hml hv
  obtain ⟨rfl, hsz, hP, hK, hD0, hNN⟩ := hv
  have hx := B.exec
  have hb := B.bytes
  have hr := B.returns
  have hts := atoms_spec (ws := wsX4_isTrack) B.pre
  have hown : s.vm.findClass RX4 = some m.cls := findClass_of_methodNamed B.named
  have hlocks := B.notSynchronized
  subst hsz
  have hD := hD0.self (sz := s.heap.size)
  generalize hAe : va_A (wC ad cA σ) s.heap.size = A at hD ⊢
  have hA : ∀ q : Nat, s.heap.size ≤ q → A q := fun q h => by rw [← hAe]; exact Or.inr h
  clear hAe hD0
  have hS : va_S A s.heap s.heap [] := va_S.rf
  have hl := lv_entry ([.int p0]) (n := 1) (Nat.le_of_ble_eq_true rfl)
  rw [lg_entry_eq]
  generalize (lg_sl ([.int p0]) ++ List.replicate (1 - (lg_sl ([.int p0])).length) Slot.unset).toArray = ls at hl ⊢
  have hl : lv_has ls 1 [(0, .int p0)] := hl
  unfold tyf_T_isTrack at hF
  refine lv_iload_n hx hb dX4_isTrack_0 rfl (lv_at hl 0 rfl) ?_
  refine lv_if_lt (tgt := 13) hx hb dX4_isTrack_1 (by decide) (fun c_1 => ?_) (fun c_1 => ?_)
  · have hF := iteT hF c_1
    refine lv_iconst (v := 0) hx hb dX4_isTrack_13 (by decide) ?_
    exact g_iretR hx hb hr rfl hlocks hP hK hD hS dX4_isTrack_14 hF
  · have hF := iteF hF c_1
    refine lv_iload_n hx hb dX4_isTrack_4 rfl (lv_at hl 0 rfl) ?_
    refine lv_iconst (v := 5) hx hb dX4_isTrack_5 (by decide) ?_
    refine lv_icmp_ge (tgt := 13) hx hb dX4_isTrack_6 (by decide) (fun c_2 => ?_) (fun c_2 => ?_)
    · have hF := iteT hF c_2
      refine lv_iconst (v := 0) hx hb dX4_isTrack_13 (by decide) ?_
      exact g_iretR hx hb hr rfl hlocks hP hK hD hS dX4_isTrack_14 hF
    · have hF := iteF hF c_2
      refine lv_iconst (v := 1) hx hb dX4_isTrack_9 (by decide) ?_
      refine lv_goto (tgt := 14) hx hb dX4_isTrack_10 (by decide) ?_
      exact g_iretR hx hb hr rfl hlocks hP hK hD hS dX4_isTrack_14 hF
set_option maxHeartbeats 4000000 in
set_option maxRecDepth 100000 in
theorem tyc_T_requireTrack (l : Launch) (D : va_G) (ad : Nat → Nat) (cA : Nat → ClassId) (sz : Nat) (σ : tyS) (p0 : Int32) (p1 : Int32) (res : tyX) (hl9 : l.stackTraces = false) (hF : tyf_T_requireTrack σ p0 p1 = some res) : gXv gStr l yX4_requireTrack wsX4_requireTrack ({ frames := 6, cells := 1, slots := 6, locals := 82 } : Room) D (wC ad cA) (tC cA) [.int p0, .int p1] sz σ res := by
  refine ty_ofW (cc := cX4_requireTrack) (maxL := 2) (ret := none) (by decide) rfl ?_
  intro p e s m args below meth c s₁ B hml ht9 hv
  obtain ⟨rfl, ⟨hsz, hP, hK, hD0, hNN⟩, hOK⟩ := hv
  have hx := B.exec
  have hb := B.bytes
  have hr := B.returns
  have hts := atoms_spec (ws := wsX4_requireTrack) B.pre
  have hown : s.vm.findClass RX4 = some m.cls := findClass_of_methodNamed B.named
  have hlocks := B.notSynchronized
  subst hsz
  have hD := hD0.self (sz := s.heap.size)
  generalize hAe : va_A (wC ad cA σ) s.heap.size = A at hD hOK ⊢
  have hA : ∀ q : Nat, s.heap.size ≤ q → A q := fun q h => by rw [← hAe]; exact Or.inr h
  clear hAe hD0
  have hS : va_S A s.heap s.heap [] := va_S.rf
  have hl := lv_entry ([.int p0, .int p1]) (n := 2) (Nat.le_of_ble_eq_true rfl)
  rw [lg_entry_eq]
  generalize (lg_sl ([.int p0, .int p1]) ++ List.replicate (2 - (lg_sl ([.int p0, .int p1])).length) Slot.unset).toArray = ls at hl ⊢
  have hl : lv_has ls 2 [(0, .int p0), (1, .int p1)] := hl
  have hS9 : CallFix p m c cX4_requireTrack 2 s _ wsX4_requireTrack RX4 := ⟨hx, hb, hml, hown, hts⟩
  have hw0 := hts (.classLink RX4 86 "java/lang/IllegalArgumentException") (List.mem_cons_of_mem _ (List.mem_of_getElem? (i := 0) rfl))
  have hw1 := hts (.initialized "java/lang/IllegalArgumentException") (List.mem_cons_of_mem _ (List.mem_of_getElem? (i := 1) rfl))
  unfold tyf_T_requireTrack at hF
  refine lv_iload_n hx hb dX4_requireTrack_0 rfl (lv_at hl 0 rfl) ?_
  obtain ⟨r1, er1, hF⟩ := bR_some hF
  refine gc_Si (As := [.int p0]) hS9 (tyc_T_isYard l D ad cA _ σ p0 r1 er1) (va_cwS 1 hts gX4_requireTrack_X4_isYard rfl rfl rfl hd_X4_isYard ⟨by decide, by decide⟩) hK hP hD hS hA hNN rfl hl.1 rfl (Nat.le_of_ble_eq_true rfl) dX4_requireTrack_1 (fun H locs hP hD hS => ?_)
  refine lv_if_eq (tgt := 14) hx hb dX4_requireTrack_4 (by decide) (fun c_2 => ?_) (fun c_2 => ?_)
  · have hF := iteT hF c_2
    exact gx_throwSW (own := RX4) (cls := "java/lang/IllegalArgumentException") (text := "yard or track is out of range") (k := 0) hx hb hl9 hown rfl (by decide +kernel) hw0 hw1 (fun w h => hts w (List.mem_cons_of_mem _ (List.mem_append_right _ h))) gnoX4_90 ggdX4_86_90 hOK (List.mem_of_getElem? (i := 25) rfl) (by rw [hml]; exact hl.1) ht9 hlocks hP hK hD hS dX4_requireTrack_14 dX4_requireTrack_17 dX4_requireTrack_18 dX4_requireTrack_21 dX4_requireTrack_24 ⟨by decide, by decide, by decide, by decide⟩ hF
  · have hF := iteF hF c_2
    refine lv_iload_n hx hb dX4_requireTrack_7 rfl (lv_at hl 1 rfl) ?_
    obtain ⟨r3, er3, hF⟩ := bR_some hF
    refine gc_Si (As := [.int p1]) hS9 (tyc_T_isTrack l D ad cA _ σ p1 r3 er3) (va_cwS 1 hts gX4_requireTrack_X4_isTrack rfl rfl rfl hd_X4_isTrack ⟨by decide, by decide⟩) hK hP hD hS hA hNN rfl hl.1 rfl (Nat.le_of_ble_eq_true rfl) dX4_requireTrack_8 (fun H locs hP hD hS => ?_)
    refine lv_if_ne (tgt := 25) hx hb dX4_requireTrack_11 (by decide) (fun c_4 => ?_) (fun c_4 => ?_)
    · have hF := iteF hF c_4
      exact g_vretX hx hb hr hlocks hP hK hD hS dX4_requireTrack_25 hF
    · have hF := iteT hF c_4
      exact gx_throwSW (own := RX4) (cls := "java/lang/IllegalArgumentException") (text := "yard or track is out of range") (k := 0) hx hb hl9 hown rfl (by decide +kernel) hw0 hw1 (fun w h => hts w (List.mem_cons_of_mem _ (List.mem_append_right _ h))) gnoX4_90 ggdX4_86_90 hOK (List.mem_of_getElem? (i := 25) rfl) (by rw [hml]; exact hl.1) ht9 hlocks hP hK hD hS dX4_requireTrack_14 dX4_requireTrack_17 dX4_requireTrack_18 dX4_requireTrack_21 dX4_requireTrack_24 ⟨by decide, by decide, by decide, by decide⟩ hF
set_option maxHeartbeats 4000000 in
set_option maxRecDepth 100000 in
theorem tyc_T_rowOf (l : Launch) (D : va_G) (ad : Nat → Nat) (cA : Nat → ClassId) (sz : Nat) (σ : tyS) (p0 : Int32) (p1 : Int32) (r : Int32) (hF : tyf_T_rowOf σ p0 p1 = some r) : gMi l yX4_rowOf wsX4_rowOf ({ frames := 0, cells := 0, slots := 0, locals := 0 } : Room) D (wC ad cA) (tC cA) [.int p0, .int p1] sz σ r σ := by
  refine Met.ofW (cc := cX4_rowOf) (maxL := 2) (ret := (some .int)) (by decide) rfl ?_
  intro p e s m args below meth c s₁ B hml hv
  obtain ⟨rfl, hsz, hP, hK, hD0, hNN⟩ := hv
  have hx := B.exec
  have hb := B.bytes
  have hr := B.returns
  have hts := atoms_spec (ws := wsX4_rowOf) B.pre
  have hown : s.vm.findClass RX4 = some m.cls := findClass_of_methodNamed B.named
  have hlocks := B.notSynchronized
  subst hsz
  have hD := hD0.self (sz := s.heap.size)
  generalize hAe : va_A (wC ad cA σ) s.heap.size = A at hD ⊢
  have hA : ∀ q : Nat, s.heap.size ≤ q → A q := fun q h => by rw [← hAe]; exact Or.inr h
  clear hAe hD0
  have hS : va_S A s.heap s.heap [] := va_S.rf
  have hl := lv_entry ([.int p0, .int p1]) (n := 2) (Nat.le_of_ble_eq_true rfl)
  rw [lg_entry_eq]
  generalize (lg_sl ([.int p0, .int p1]) ++ List.replicate (2 - (lg_sl ([.int p0, .int p1])).length) Slot.unset).toArray = ls at hl ⊢
  have hl : lv_has ls 2 [(0, .int p0), (1, .int p1)] := hl
  unfold tyf_T_rowOf at hF
  refine lv_iload_n hx hb dX4_rowOf_0 rfl (lv_at hl 0 rfl) ?_
  refine lv_iconst (v := 5) hx hb dX4_rowOf_1 (by decide) ?_
  refine lv_imul hx hb dX4_rowOf_2 ?_
  refine lv_iload_n hx hb dX4_rowOf_3 rfl (lv_at hl 1 rfl) ?_
  refine lv_iadd hx hb dX4_rowOf_4 ?_
  exact g_iretR hx hb hr rfl hlocks hP hK hD hS dX4_rowOf_5 hF
set_option maxHeartbeats 4000000 in
set_option maxRecDepth 100000 in
theorem tyc_R1_hasRoom (l : Launch) (D : va_G) (ad : Nat → Nat) (cA : Nat → ClassId) (sz : Nat) (σ : tyS) (p1 : Int32) (p2 : Int32) (r : Int32) (hF : tyf_R1_hasRoom σ p1 p2 = some r) : gMi l yX2_hasRoom wsX2_hasRoom ({ frames := 0, cells := 0, slots := 0, locals := 0 } : Room) D (wC ad cA) (tC cA) [.ref (ad 1), .int p1, .int p2] sz σ r σ := by
  refine Met.ofW (cc := cX2_hasRoom) (maxL := 3) (ret := (some .boolean)) (by decide) rfl ?_
  intro p e s m args below meth c s₁ B hml hv
  obtain ⟨rfl, hsz, hP, hK, hD0, hNN⟩ := hv
  have hx := B.exec
  have hb := B.bytes
  have hr := B.returns
  have hts := atoms_spec (ws := wsX2_hasRoom) B.pre
  have hown : s.vm.findClass RX2 = some m.cls := findClass_of_methodNamed B.named
  have hlocks := B.notSynchronized
  subst hsz
  have hD := hD0.self (sz := s.heap.size)
  generalize hAe : va_A (wC ad cA σ) s.heap.size = A at hD ⊢
  have hA : ∀ q : Nat, s.heap.size ≤ q → A q := fun q h => by rw [← hAe]; exact Or.inr h
  clear hAe hD0
  have hS : va_S A s.heap s.heap [] := va_S.rf
  have hl := lv_entry ([.ref (ad 1), .int p1, .int p2]) (n := 3) (Nat.le_of_ble_eq_true rfl)
  rw [lg_entry_eq]
  generalize (lg_sl ([.ref (ad 1), .int p1, .int p2]) ++ List.replicate (3 - (lg_sl ([.ref (ad 1), .int p1, .int p2])).length) Slot.unset).toArray = ls at hl ⊢
  have hl : lv_has ls 3 [(0, .ref (ad 1)), (1, .int p1), (2, .int p2)] := hl
  have hw0 := hts (.fieldLink RX2 9 "TrunkYards$Rows" "counts" "[I") (List.mem_cons_of_mem _ (List.mem_of_getElem? (i := 0) rfl))
  have hiX2 : ∀ w ∈ wsX20, w ∈ wsX2_hasRoom := fun w h => List.mem_cons_of_mem _ (List.mem_append_right _ h)
  unfold tyf_R1_hasRoom at hF
  refine lv_aload_n hx hb dX2_hasRoom_0 rfl (lv_at hl 0 rfl) ?_
  refine va_get (D := D) (ci := 2) (v := .ref (ad 6)) (C := RX2) (T := TX2) (N := 2) hx hb hts hiX2 hown hK hP 1 (wC_1 ad cA σ) rfl 0 (by decide) hw0 (fun _ h9 => h9) rfl dX2_hasRoom_1 ?_
  refine lv_iload_n hx hb dX2_hasRoom_4 rfl (lv_at hl 1 rfl) ?_
  obtain ⟨hb_1, hF⟩ := chk_some hF
  refine va_iald hx hb hK hP 6 0 (wC_6 ad cA σ) (tC_6 cA) hb_1 dX2_hasRoom_5 ?_
  refine lv_iload_n hx hb dX2_hasRoom_6 rfl (lv_at hl 2 rfl) ?_
  refine lv_iadd hx hb dX2_hasRoom_7 ?_
  refine lv_bipush (v := 6) hx hb dX2_hasRoom_8 (by decide) ?_
  refine lv_icmp_gt (tgt := 17) hx hb dX2_hasRoom_10 (by decide) (fun c_2 => ?_) (fun c_2 => ?_)
  · have hF := iteT hF c_2
    refine lv_iconst (v := 0) hx hb dX2_hasRoom_17 (by decide) ?_
    exact g_iretR hx hb hr rfl hlocks hP hK hD hS dX2_hasRoom_18 hF
  · have hF := iteF hF c_2
    refine lv_iconst (v := 1) hx hb dX2_hasRoom_13 (by decide) ?_
    refine lv_goto (tgt := 18) hx hb dX2_hasRoom_14 (by decide) ?_
    exact g_iretR hx hb hr rfl hlocks hP hK hD hS dX2_hasRoom_18 hF
set_option maxHeartbeats 4000000 in
set_option maxRecDepth 100000 in
theorem tyc_R1_put (l : Launch) (D : va_G) (ad : Nat → Nat) (cA : Nat → ClassId) (sz : Nat) (σ : tyS) (p1 : Int32) (p2 : Int32) (τ : tyS) (hF : tyf_R1_put σ p1 p2 = some τ) : gMv l yX2_put wsX2_put ({ frames := 0, cells := 0, slots := 0, locals := 0 } : Room) D (wC ad cA) (tC cA) [.ref (ad 1), .int p1, .int p2] sz σ τ := by
  refine Met.ofW (cc := cX2_put) (maxL := 3) (ret := none) (by decide) rfl ?_
  intro p e s m args below meth c s₁ B hml hv
  obtain ⟨rfl, hsz, hP, hK, hD0, hNN⟩ := hv
  have hx := B.exec
  have hb := B.bytes
  have hr := B.returns
  have hts := atoms_spec (ws := wsX2_put) B.pre
  have hown : s.vm.findClass RX2 = some m.cls := findClass_of_methodNamed B.named
  have hlocks := B.notSynchronized
  subst hsz
  have hD := hD0.self (sz := s.heap.size)
  generalize hAe : va_A (wC ad cA σ) s.heap.size = A at hD ⊢
  have hA : ∀ q : Nat, s.heap.size ≤ q → A q := fun q h => by rw [← hAe]; exact Or.inr h
  clear hAe hD0
  have hS : va_S A s.heap s.heap [] := va_S.rf
  have hl := lv_entry ([.ref (ad 1), .int p1, .int p2]) (n := 3) (Nat.le_of_ble_eq_true rfl)
  rw [lg_entry_eq]
  generalize (lg_sl ([.ref (ad 1), .int p1, .int p2]) ++ List.replicate (3 - (lg_sl ([.ref (ad 1), .int p1, .int p2])).length) Slot.unset).toArray = ls at hl ⊢
  have hl : lv_has ls 3 [(0, .ref (ad 1)), (1, .int p1), (2, .int p2)] := hl
  have hw0 := hts (.fieldLink RX2 15 "TrunkYards$Rows" "standing" "[I") (List.mem_cons_of_mem _ (List.mem_of_getElem? (i := 0) rfl))
  have hiX2 : ∀ w ∈ wsX20, w ∈ wsX2_put := fun w h => List.mem_cons_of_mem _ (List.mem_append_right _ h)
  have hw2 := hts (.fieldLink RX2 9 "TrunkYards$Rows" "counts" "[I") (List.mem_cons_of_mem _ (List.mem_of_getElem? (i := 1) rfl))
  unfold tyf_R1_put at hF
  refine lv_aload_n hx hb dX2_put_0 rfl (lv_at hl 0 rfl) ?_
  refine va_get (D := D) (ci := 2) (v := .ref (ad 7)) (C := RX2) (T := TX2) (N := 2) hx hb hts hiX2 hown hK hP 1 (wC_1 ad cA σ) rfl 1 (by decide) hw0 (fun _ h9 => h9) rfl dX2_put_1 ?_
  refine lv_iload_n hx hb dX2_put_4 rfl (lv_at hl 1 rfl) ?_
  refine lv_bipush (v := 6) hx hb dX2_put_5 (by decide) ?_
  refine lv_imul hx hb dX2_put_7 ?_
  refine lv_aload_n hx hb dX2_put_8 rfl (lv_at hl 0 rfl) ?_
  refine va_get (D := D) (ci := 2) (v := .ref (ad 6)) (C := RX2) (T := TX2) (N := 2) hx hb hts hiX2 hown hK hP 1 (wC_1 ad cA σ) rfl 0 (by decide) hw2 (fun _ h9 => h9) rfl dX2_put_9 ?_
  refine lv_iload_n hx hb dX2_put_12 rfl (lv_at hl 1 rfl) ?_
  obtain ⟨hb_1, hF⟩ := chk_some hF
  refine va_iald hx hb hK hP 6 0 (wC_6 ad cA σ) (tC_6 cA) hb_1 dX2_put_13 ?_
  refine lv_iadd hx hb dX2_put_14 ?_
  refine lv_iload_n hx hb dX2_put_15 rfl (lv_at hl 2 rfl) ?_
  obtain ⟨hb_2, hF⟩ := chk_some hF
  obtain ⟨σ3, e3, hF⟩ := stp_some hF
  refine gw_iast hx hb hK hP hD hS (wC_7 ad cA σ) (tC_7 cA) (wCs_7 ad cA σ) hb_2 dX2_put_16 e3 (fun H locs hP hD hS => ?_)
  refine lv_aload_n hx hb dX2_put_17 rfl (lv_at hl 0 rfl) ?_
  refine va_get (D := D) (ci := 2) (v := .ref (ad 6)) (C := RX2) (T := TX2) (N := 2) hx hb hts hiX2 hown hK hP 1 (wC_1 ad cA σ3) rfl 0 (by decide) hw2 (fun _ h9 => h9) rfl dX2_put_18 ?_
  refine lv_iload_n hx hb dX2_put_21 rfl (lv_at hl 1 rfl) ?_
  refine lv_dup2_11 hx hb dX2_put_22 rfl rfl ?_
  obtain ⟨hb_4, hF⟩ := chk_some hF
  refine va_iald hx hb hK hP 6 0 (wC_6 ad cA σ3) (tC_6 cA) hb_4 dX2_put_23 ?_
  refine lv_iconst (v := 1) hx hb dX2_put_24 (by decide) ?_
  refine lv_iadd hx hb dX2_put_25 ?_
  obtain ⟨hb_5, hF⟩ := chk_some hF
  obtain ⟨σ6, e6, hF⟩ := stp_some hF
  refine gw_iast hx hb hK hP hD hS (wC_6 ad cA σ3) (tC_6 cA) (wCs_6 ad cA σ3) hb_5 dX2_put_26 e6 (fun H locs hP hD hS => ?_)
  exact g_vretN hx hb hr hlocks hP hK hD hS dX2_put_27 hF
set_option maxHeartbeats 4000000 in
set_option maxRecDepth 100000 in
theorem tyc_H_noteMove (l : Launch) (D : va_G) (ad : Nat → Nat) (cA : Nat → ClassId) (sz : Nat) (σ : tyS) (p1 : Int32) (p2 : Int32) (p3 : Int32) (τ : tyS) (hF : tyf_H_noteMove σ p1 p2 p3 = some τ) : gMv l yX0_noteMove wsX0_noteMove ({ frames := 0, cells := 0, slots := 0, locals := 0 } : Room) D (wC ad cA) (tC cA) [.ref (ad 3), .int p1, .int p2, .int p3] sz σ τ := by
  refine Met.ofW (cc := cX0_noteMove) (maxL := 4) (ret := none) (by decide) rfl ?_
  intro p e s m args below meth c s₁ B hml hv
  obtain ⟨rfl, hsz, hP, hK, hD0, hNN⟩ := hv
  have hx := B.exec
  have hb := B.bytes
  have hr := B.returns
  have hts := atoms_spec (ws := wsX0_noteMove) B.pre
  have hown : s.vm.findClass RX0 = some m.cls := findClass_of_methodNamed B.named
  have hlocks := B.notSynchronized
  subst hsz
  have hD := hD0.self (sz := s.heap.size)
  generalize hAe : va_A (wC ad cA σ) s.heap.size = A at hD ⊢
  have hA : ∀ q : Nat, s.heap.size ≤ q → A q := fun q h => by rw [← hAe]; exact Or.inr h
  clear hAe hD0
  have hS : va_S A s.heap s.heap [] := va_S.rf
  have hl := lv_entry ([.ref (ad 3), .int p1, .int p2, .int p3]) (n := 4) (Nat.le_of_ble_eq_true rfl)
  rw [lg_entry_eq]
  generalize (lg_sl ([.ref (ad 3), .int p1, .int p2, .int p3]) ++ List.replicate (4 - (lg_sl ([.ref (ad 3), .int p1, .int p2, .int p3])).length) Slot.unset).toArray = ls at hl ⊢
  have hl : lv_has ls 4 [(0, .ref (ad 3)), (1, .int p1), (2, .int p2), (3, .int p3)] := hl
  have hw0 := hts (.fieldLink RX0 25 "TrunkYards$History" "noted" "I") (List.mem_cons_of_mem _ (List.mem_of_getElem? (i := 0) rfl))
  have hiX0 : ∀ w ∈ wsX00, w ∈ wsX0_noteMove := fun w h => List.mem_cons_of_mem _ (List.mem_append_right _ h)
  have hw2 := hts (.fieldLink RX0 9 "TrunkYards$History" "from" "[I") (List.mem_cons_of_mem _ (List.mem_of_getElem? (i := 1) rfl))
  have hw3 := hts (.fieldLink RX0 15 "TrunkYards$History" "to" "[I") (List.mem_cons_of_mem _ (List.mem_of_getElem? (i := 2) rfl))
  have hw4 := hts (.fieldLink RX0 18 "TrunkYards$History" "many" "[I") (List.mem_cons_of_mem _ (List.mem_of_getElem? (i := 3) rfl))
  unfold tyf_H_noteMove at hF
  refine lv_aload_n hx hb dX0_noteMove_0 rfl (lv_at hl 0 rfl) ?_
  refine va_get (D := D) (ci := 0) (v := .int (σ.2 4)) (C := RX0) (T := TX0) (N := 4) hx hb hts hiX0 hown hK hP 3 (wC_3 ad cA σ) rfl 3 (by decide) hw0 (fun _ h9 => h9) rfl dX0_noteMove_1 ?_
  refine lv_sipush (v := 512) hx hb dX0_noteMove_4 (by decide) ?_
  refine lv_icmp_ge (tgt := 50) hx hb dX0_noteMove_7 (by decide) (fun c_1 => ?_) (fun c_1 => ?_)
  · have hF := iteT hF c_1
    exact g_vretN hx hb hr hlocks hP hK hD hS dX0_noteMove_50 hF
  · have hF := iteF hF c_1
    refine lv_aload_n hx hb dX0_noteMove_10 rfl (lv_at hl 0 rfl) ?_
    refine va_get (D := D) (ci := 0) (v := .ref (ad 10)) (C := RX0) (T := TX0) (N := 4) hx hb hts hiX0 hown hK hP 3 (wC_3 ad cA σ) rfl 0 (by decide) hw2 (fun _ h9 => h9) rfl dX0_noteMove_11 ?_
    refine lv_aload_n hx hb dX0_noteMove_14 rfl (lv_at hl 0 rfl) ?_
    refine va_get (D := D) (ci := 0) (v := .int (σ.2 4)) (C := RX0) (T := TX0) (N := 4) hx hb hts hiX0 hown hK hP 3 (wC_3 ad cA σ) rfl 3 (by decide) hw0 (fun _ h9 => h9) rfl dX0_noteMove_15 ?_
    refine lv_iload_n hx hb dX0_noteMove_18 rfl (lv_at hl 1 rfl) ?_
    obtain ⟨hb_2, hF⟩ := chk_some hF
    obtain ⟨σ3, e3, hF⟩ := stp_some hF
    refine gw_iast hx hb hK hP hD hS (wC_10 ad cA σ) (tC_10 cA) (wCs_10 ad cA σ) hb_2 dX0_noteMove_19 e3 (fun H locs hP hD hS => ?_)
    refine lv_aload_n hx hb dX0_noteMove_20 rfl (lv_at hl 0 rfl) ?_
    refine va_get (D := D) (ci := 0) (v := .ref (ad 11)) (C := RX0) (T := TX0) (N := 4) hx hb hts hiX0 hown hK hP 3 (wC_3 ad cA σ3) rfl 1 (by decide) hw3 (fun _ h9 => h9) rfl dX0_noteMove_21 ?_
    refine lv_aload_n hx hb dX0_noteMove_24 rfl (lv_at hl 0 rfl) ?_
    refine va_get (D := D) (ci := 0) (v := .int (σ3.2 4)) (C := RX0) (T := TX0) (N := 4) hx hb hts hiX0 hown hK hP 3 (wC_3 ad cA σ3) rfl 3 (by decide) hw0 (fun _ h9 => h9) rfl dX0_noteMove_25 ?_
    refine lv_iload_n hx hb dX0_noteMove_28 rfl (lv_at hl 2 rfl) ?_
    obtain ⟨hb_4, hF⟩ := chk_some hF
    obtain ⟨σ5, e5, hF⟩ := stp_some hF
    refine gw_iast hx hb hK hP hD hS (wC_11 ad cA σ3) (tC_11 cA) (wCs_11 ad cA σ3) hb_4 dX0_noteMove_29 e5 (fun H locs hP hD hS => ?_)
    refine lv_aload_n hx hb dX0_noteMove_30 rfl (lv_at hl 0 rfl) ?_
    refine va_get (D := D) (ci := 0) (v := .ref (ad 12)) (C := RX0) (T := TX0) (N := 4) hx hb hts hiX0 hown hK hP 3 (wC_3 ad cA σ5) rfl 2 (by decide) hw4 (fun _ h9 => h9) rfl dX0_noteMove_31 ?_
    refine lv_aload_n hx hb dX0_noteMove_34 rfl (lv_at hl 0 rfl) ?_
    refine va_get (D := D) (ci := 0) (v := .int (σ5.2 4)) (C := RX0) (T := TX0) (N := 4) hx hb hts hiX0 hown hK hP 3 (wC_3 ad cA σ5) rfl 3 (by decide) hw0 (fun _ h9 => h9) rfl dX0_noteMove_35 ?_
    refine lv_iload_n hx hb dX0_noteMove_38 rfl (lv_at hl 3 rfl) ?_
    obtain ⟨hb_6, hF⟩ := chk_some hF
    obtain ⟨σ7, e7, hF⟩ := stp_some hF
    refine gw_iast hx hb hK hP hD hS (wC_12 ad cA σ5) (tC_12 cA) (wCs_12 ad cA σ5) hb_6 dX0_noteMove_39 e7 (fun H locs hP hD hS => ?_)
    refine lv_aload_n hx hb dX0_noteMove_40 rfl (lv_at hl 0 rfl) ?_
    refine lv_dup hx hb dX0_noteMove_41 rfl ?_
    refine va_get (D := D) (ci := 0) (v := .int (σ7.2 4)) (C := RX0) (T := TX0) (N := 4) hx hb hts hiX0 hown hK hP 3 (wC_3 ad cA σ7) rfl 3 (by decide) hw0 (fun _ h9 => h9) rfl dX0_noteMove_42 ?_
    refine lv_iconst (v := 1) hx hb dX0_noteMove_45 (by decide) ?_
    refine lv_iadd hx hb dX0_noteMove_46 ?_
    obtain ⟨σ8, e8, hF⟩ := stp_some hF
    refine gw_put hx hb hts hiX0 tyX0 tyX0_ok nmX0 hown hK hP hD hS 3 (wC_3 ad cA σ7) rfl 3 (by decide) hw0 (fun _ h9 => h9) rfl (by decide +kernel) (show 3 < 4 from by decide) (wCv_4 ad cA σ7 _) dX0_noteMove_47 e8 (fun H locs hP hD hS => ?_)
    exact g_vretN hx hb hr hlocks hP hK hD hS dX0_noteMove_50 hF
set_option maxHeartbeats 4000000 in
set_option maxRecDepth 100000 in
theorem tyc_H_notePlacing (l : Launch) (D : va_G) (ad : Nat → Nat) (cA : Nat → ClassId) (sz : Nat) (σ : tyS) (p1 : Int32) (p2 : Int32) (τ : tyS) (hF : tyf_H_notePlacing σ p1 p2 = some τ) : gMv l yX0_notePlacing wsX0_notePlacing ({ frames := 1, cells := 0, slots := 0, locals := 23 } : Room) D (wC ad cA) (tC cA) [.ref (ad 3), .int p1, .int p2] sz σ τ := by
  refine Met.ofW (cc := cX0_notePlacing) (maxL := 3) (ret := none) (by decide) rfl ?_
  intro p e s m args below meth c s₁ B hml hv
  obtain ⟨rfl, hsz, hP, hK, hD0, hNN⟩ := hv
  have hx := B.exec
  have hb := B.bytes
  have hr := B.returns
  have hts := atoms_spec (ws := wsX0_notePlacing) B.pre
  have hown : s.vm.findClass RX0 = some m.cls := findClass_of_methodNamed B.named
  have hlocks := B.notSynchronized
  subst hsz
  have hD := hD0.self (sz := s.heap.size)
  generalize hAe : va_A (wC ad cA σ) s.heap.size = A at hD ⊢
  have hA : ∀ q : Nat, s.heap.size ≤ q → A q := fun q h => by rw [← hAe]; exact Or.inr h
  clear hAe hD0
  have hS : va_S A s.heap s.heap [] := va_S.rf
  have hl := lv_entry ([.ref (ad 3), .int p1, .int p2]) (n := 3) (Nat.le_of_ble_eq_true rfl)
  rw [lg_entry_eq]
  generalize (lg_sl ([.ref (ad 3), .int p1, .int p2]) ++ List.replicate (3 - (lg_sl ([.ref (ad 3), .int p1, .int p2])).length) Slot.unset).toArray = ls at hl ⊢
  have hl : lv_has ls 3 [(0, .ref (ad 3)), (1, .int p1), (2, .int p2)] := hl
  have hS9 : CallFix p m c cX0_notePlacing 3 s _ wsX0_notePlacing RX0 := ⟨hx, hb, hml, hown, hts⟩
  unfold tyf_H_notePlacing at hF
  refine lv_aload_n hx hb dX0_notePlacing_0 rfl (lv_at hl 0 rfl) ?_
  refine lv_iconst (v := (-1)) hx hb dX0_notePlacing_1 (by decide) ?_
  refine lv_iload_n hx hb dX0_notePlacing_2 rfl (lv_at hl 1 rfl) ?_
  refine lv_iload_n hx hb dX0_notePlacing_3 rfl (lv_at hl 2 rfl) ?_
  obtain ⟨σ1, e1, hF⟩ := bR_some hF
  refine gc_Vv (As := [.int (-1), .int p1, .int p2]) hS9 (tyc_H_noteMove l D ad cA _ σ (-1) p1 p2 σ1 e1) (cwV 3 hts gX0_notePlacing_X0_noteMove rfl rfl rfl hd_X0_noteMove ⟨by decide, by decide⟩) hK hP hD hS hA hNN (ci := 0) (q0 := 3) (N := 4) rfl (wC_3 ad cA σ) rfl hl.1 rfl (Nat.le_of_ble_eq_true rfl) dX0_notePlacing_4 (fun H locs hP hD hS => ?_)
  exact g_vretN hx hb hr hlocks hP hK hD hS dX0_notePlacing_7 hF
set_option maxHeartbeats 4000000 in
set_option maxRecDepth 100000 in
theorem tyc_T_wagon (l : Launch) (D : va_G) (ad : Nat → Nat) (cA : Nat → ClassId) (sz : Nat) (σ : tyS) (p1 : Int32) (p2 : Int32) (res : tyX) (hl9 : l.stackTraces = false) (hF : tyf_T_wagon σ p1 p2 = some res) : gXi gStr l yX4_wagon wsX4_wagon ({ frames := 7, cells := 1, slots := 6, locals := 103 } : Room) D (wC ad cA) (tC cA) [.ref (ad 0), .int p1, .int p2] sz σ res := by
  refine ty_ofW (cc := cX4_wagon) (maxL := 5) (ret := (some .int)) (by decide) rfl ?_
  intro p e s m args below meth c s₁ B hml ht9 hv
  obtain ⟨rfl, ⟨hsz, hP, hK, hD0, hNN⟩, hOK⟩ := hv
  have hx := B.exec
  have hb := B.bytes
  have hr := B.returns
  have hts := atoms_spec (ws := wsX4_wagon) B.pre
  have hown : s.vm.findClass RX4 = some m.cls := findClass_of_methodNamed B.named
  have hlocks := B.notSynchronized
  subst hsz
  have hD := hD0.self (sz := s.heap.size)
  generalize hAe : va_A (wC ad cA σ) s.heap.size = A at hD hOK ⊢
  have hA : ∀ q : Nat, s.heap.size ≤ q → A q := fun q h => by rw [← hAe]; exact Or.inr h
  clear hAe hD0
  have hS : va_S A s.heap s.heap [] := va_S.rf
  have hl := lv_entry ([.ref (ad 0), .int p1, .int p2]) (n := 5) (Nat.le_of_ble_eq_true rfl)
  rw [lg_entry_eq]
  generalize (lg_sl ([.ref (ad 0), .int p1, .int p2]) ++ List.replicate (5 - (lg_sl ([.ref (ad 0), .int p1, .int p2])).length) Slot.unset).toArray = ls at hl ⊢
  have hl : lv_has ls 5 [(0, .ref (ad 0)), (1, .int p1), (2, .int p2)] := hl
  have hS9 : CallFix p m c cX4_wagon 5 s _ wsX4_wagon RX4 := ⟨hx, hb, hml, hown, hts⟩
  have hw0 := hts (.fieldLink RX4 65 "TrunkYards" "placed" "I") (List.mem_cons_of_mem _ (List.mem_of_getElem? (i := 2) rfl))
  have hiX4 : ∀ w ∈ wsX40, w ∈ wsX4_wagon := fun w h => List.mem_cons_of_mem _ (List.mem_append_left _ (List.mem_append_left _ (List.mem_append_left _ (List.mem_append_left _ (List.mem_append_right _ h)))))
  have hw2 := hts (.classLink RX4 73 "java/lang/IllegalStateException") (List.mem_cons_of_mem _ (List.mem_of_getElem? (i := 0) rfl))
  have hw3 := hts (.initialized "java/lang/IllegalStateException") (List.mem_cons_of_mem _ (List.mem_of_getElem? (i := 1) rfl))
  have hw4 := hts (.fieldLink RX4 12 "TrunkYards" "rows" "LTrunkYards$Rows;") (List.mem_cons_of_mem _ (List.mem_of_getElem? (i := 3) rfl))
  have hw5 := hts (.fieldLink RX4 22 "TrunkYards" "history" "LTrunkYards$History;") (List.mem_cons_of_mem _ (List.mem_of_getElem? (i := 4) rfl))
  unfold tyf_T_wagon at hF
  refine lv_iload_n hx hb dX4_wagon_0 rfl (lv_at hl 1 rfl) ?_
  refine lv_iload_n hx hb dX4_wagon_1 rfl (lv_at hl 2 rfl) ?_
  rcases bX_some hF with ⟨kr2, r2, σ1, er2, hF⟩ | ⟨r2, σ1, er2, hF⟩
  · exact gx_T (gx_runS (As := [.int p1, .int p2]) (Qc := gQXv D (wC ad cA) (tC cA) _ _) hS9 (tyc_T_requireTrack l D ad cA _ σ p1 p2 _ hl9 er2) (va_cwS 2 hts gX4_wagon_X4_requireTrack rfl rfl rfl hd_X4_requireTrack ⟨by decide, by decide⟩) hOK hK hP hD hS hA hNN rfl hl.1 rfl (Nat.le_of_ble_eq_true rfl) dX4_wagon_2 ⟨by decide, by decide⟩) (gx_nov rfl) rfl hF ht9 hlocks hK hD hS hA
  refine gx_Rv (rest2 := ([.int p1, .int p2])) (gx_runS (As := [.int p1, .int p2]) (Qc := gQXv D (wC ad cA) (tC cA) _ _) hS9 (tyc_T_requireTrack l D ad cA _ σ p1 p2 _ hl9 er2) (va_cwS 2 hts gX4_wagon_X4_requireTrack rfl rfl rfl hd_X4_requireTrack ⟨by decide, by decide⟩) hOK hK hP hD hS hA hNN rfl hl.1 rfl (Nat.le_of_ble_eq_true rfl) dX4_wagon_2 ⟨by decide, by decide⟩) rfl hK hD hS hA (fun H locs hP hD hS => ?_)
  refine lv_iload_n hx hb dX4_wagon_5 rfl (lv_at hl 1 rfl) ?_
  refine lv_iload_n hx hb dX4_wagon_6 rfl (lv_at hl 2 rfl) ?_
  obtain ⟨r3, er3, hF⟩ := bR_some hF
  refine gc_Si (As := [.int p1, .int p2]) hS9 (tyc_T_rowOf l D ad cA _ σ1 p1 p2 r3 er3) (va_cwS 2 hts gX4_wagon_X4_rowOf rfl rfl rfl hd_X4_rowOf ⟨by decide, by decide⟩) hK hP hD hS hA hNN rfl hl.1 rfl (Nat.le_of_ble_eq_true rfl) dX4_wagon_7 (fun H locs hP hD hS => ?_)
  refine lv_istore_n (lv' := [(3, .int r3), (0, .ref (ad 0)), (1, .int p1), (2, .int p2)]) hx hb dX4_wagon_10 rfl hl (by decide) rfl (fun ls hl => ?_)
  refine lv_aload_n hx hb dX4_wagon_11 rfl (lv_at hl 1 rfl) ?_
  refine va_get (D := D) (ci := 4) (v := .int (σ1.2 0)) (C := RX4) (T := TX4) (N := 12) hx hb hts hiX4 hown hK hP 0 (wC_0 ad cA σ1) rfl 8 (by decide) hw0 (fun _ h9 => h9) rfl dX4_wagon_12 ?_
  refine lv_bipush (v := 30) hx hb dX4_wagon_15 (by decide) ?_
  refine lv_icmp_ge (tgt := 32) hx hb dX4_wagon_17 (by decide) (fun c_4 => ?_) (fun c_4 => ?_)
  · have hF := iteT hF c_4
    exact gx_throwS (own := RX4) (cls := "java/lang/IllegalStateException") (text := "no wagon or no room is left") (k := 1) hx hb hl9 hown rfl (by decide +kernel) hw2 hw3 (fun w h => hts w (List.mem_cons_of_mem _ (List.mem_append_left _ (List.mem_append_right _ h)))) gnoX4_77 ggdX4_73_77 hOK (List.mem_of_getElem? (i := 0) rfl) (by rw [hml]; exact hl.1) ht9 hlocks hP hK hD hS dX4_wagon_32 dX4_wagon_35 dX4_wagon_36 dX4_wagon_38 dX4_wagon_41 ⟨by decide, by decide, by decide, by decide⟩ hF
  · have hF := iteF hF c_4
    refine lv_aload_n hx hb dX4_wagon_20 rfl (lv_at hl 1 rfl) ?_
    refine va_get (D := D) (ci := 4) (v := .ref (ad 1)) (C := RX4) (T := TX4) (N := 12) hx hb hts hiX4 hown hK hP 0 (wC_0 ad cA σ1) rfl 0 (by decide) hw4 (fun _ h9 => h9) rfl dX4_wagon_21 ?_
    refine lv_iload_n hx hb dX4_wagon_24 rfl (lv_at hl 0 rfl) ?_
    refine lv_iconst (v := 1) hx hb dX4_wagon_25 (by decide) ?_
    obtain ⟨r5, er5, hF⟩ := bR_some hF
    refine gc_Vi (As := [.int r3, .int 1]) hS9 (tyc_R1_hasRoom l D ad cA _ σ1 r3 1 r5 er5) (cwV 2 hts gX4_wagon_X2_hasRoom rfl rfl rfl hd_X2_hasRoom ⟨by decide, by decide⟩) hK hP hD hS hA hNN (ci := 2) (q0 := 1) (N := 2) rfl (wC_1 ad cA σ1) rfl hl.1 rfl (Nat.le_of_ble_eq_true rfl) dX4_wagon_26 (fun H locs hP hD hS => ?_)
    refine lv_if_ne (tgt := 42) hx hb dX4_wagon_29 (by decide) (fun c_6 => ?_) (fun c_6 => ?_)
    · have hF := iteF hF c_6
      refine lv_aload_n hx hb dX4_wagon_42 rfl (lv_at hl 1 rfl) ?_
      refine va_get (D := D) (ci := 4) (v := .int (σ1.2 0)) (C := RX4) (T := TX4) (N := 12) hx hb hts hiX4 hown hK hP 0 (wC_0 ad cA σ1) rfl 8 (by decide) hw0 (fun _ h9 => h9) rfl dX4_wagon_43 ?_
      refine lv_istore (lv' := [(4, .int (σ1.2 0)), (3, .int r3), (0, .ref (ad 0)), (1, .int p1), (2, .int p2)]) hx hb dX4_wagon_46 hl (by decide) rfl (fun ls hl => ?_)
      refine lv_aload_n hx hb dX4_wagon_48 rfl (lv_at hl 2 rfl) ?_
      refine lv_dup hx hb dX4_wagon_49 rfl ?_
      refine va_get (D := D) (ci := 4) (v := .int (σ1.2 0)) (C := RX4) (T := TX4) (N := 12) hx hb hts hiX4 hown hK hP 0 (wC_0 ad cA σ1) rfl 8 (by decide) hw0 (fun _ h9 => h9) rfl dX4_wagon_50 ?_
      refine lv_iconst (v := 1) hx hb dX4_wagon_53 (by decide) ?_
      refine lv_iadd hx hb dX4_wagon_54 ?_
      obtain ⟨σ7, e7, hF⟩ := stp_some hF
      refine gw_put hx hb hts hiX4 tyX4 tyX4_ok nmX4 hown hK hP hD hS 0 (wC_0 ad cA σ1) rfl 8 (by decide) hw0 (fun _ h9 => h9) rfl (by decide +kernel) (show 8 < 12 from by decide) (wCv_0 ad cA σ1 _) dX4_wagon_55 e7 (fun H locs hP hD hS => ?_)
      refine lv_aload_n hx hb dX4_wagon_58 rfl (lv_at hl 2 rfl) ?_
      refine va_get (D := D) (ci := 4) (v := .ref (ad 1)) (C := RX4) (T := TX4) (N := 12) hx hb hts hiX4 hown hK hP 0 (wC_0 ad cA σ7) rfl 0 (by decide) hw4 (fun _ h9 => h9) rfl dX4_wagon_59 ?_
      refine lv_iload_n hx hb dX4_wagon_62 rfl (lv_at hl 1 rfl) ?_
      refine lv_iload hx hb dX4_wagon_63 (lv_at hl 0 rfl) ?_
      obtain ⟨σ8, e8, hF⟩ := bR_some hF
      refine gc_Vv (As := [.int r3, .int (σ1.2 0)]) hS9 (tyc_R1_put l D ad cA _ σ7 r3 (σ1.2 0) σ8 e8) (cwV 2 hts gX4_wagon_X2_put rfl rfl rfl hd_X2_put ⟨by decide, by decide⟩) hK hP hD hS hA hNN (ci := 2) (q0 := 1) (N := 2) rfl (wC_1 ad cA σ7) rfl hl.1 rfl (Nat.le_of_ble_eq_true rfl) dX4_wagon_65 (fun H locs hP hD hS => ?_)
      refine lv_aload_n hx hb dX4_wagon_68 rfl (lv_at hl 2 rfl) ?_
      refine va_get (D := D) (ci := 4) (v := .ref (ad 3)) (C := RX4) (T := TX4) (N := 12) hx hb hts hiX4 hown hK hP 0 (wC_0 ad cA σ8) rfl 2 (by decide) hw5 (fun _ h9 => h9) rfl dX4_wagon_69 ?_
      refine lv_iload_n hx hb dX4_wagon_72 rfl (lv_at hl 1 rfl) ?_
      refine lv_iload hx hb dX4_wagon_73 (lv_at hl 0 rfl) ?_
      obtain ⟨σ9, e9, hF⟩ := bR_some hF
      refine gc_Vv (As := [.int r3, .int (σ1.2 0)]) hS9 (tyc_H_notePlacing l D ad cA _ σ8 r3 (σ1.2 0) σ9 e9) (cwV 2 hts gX4_wagon_X0_notePlacing rfl rfl rfl hd_X0_notePlacing ⟨by decide, by decide⟩) hK hP hD hS hA hNN (ci := 0) (q0 := 3) (N := 4) rfl (wC_3 ad cA σ8) rfl hl.1 rfl (Nat.le_of_ble_eq_true rfl) dX4_wagon_75 (fun H locs hP hD hS => ?_)
      refine lv_iload hx hb dX4_wagon_78 (lv_at hl 0 rfl) ?_
      exact g_iretX hx hb hr rfl hlocks hP hK hD hS dX4_wagon_80 hF
    · have hF := iteT hF c_6
      exact gx_throwS (own := RX4) (cls := "java/lang/IllegalStateException") (text := "no wagon or no room is left") (k := 1) hx hb hl9 hown rfl (by decide +kernel) hw2 hw3 (fun w h => hts w (List.mem_cons_of_mem _ (List.mem_append_left _ (List.mem_append_right _ h)))) gnoX4_77 ggdX4_73_77 hOK (List.mem_of_getElem? (i := 0) rfl) (by rw [hml]; exact hl.1) ht9 hlocks hP hK hD hS dX4_wagon_32 dX4_wagon_35 dX4_wagon_36 dX4_wagon_38 dX4_wagon_41 ⟨by decide, by decide, by decide, by decide⟩ hF
set_option maxHeartbeats 4000000 in
set_option maxRecDepth 100000 in
theorem tyc_R1_count (l : Launch) (D : va_G) (ad : Nat → Nat) (cA : Nat → ClassId) (sz : Nat) (σ : tyS) (p1 : Int32) (r : Int32) (hF : tyf_R1_count σ p1 = some r) : gMi l yX2_count wsX2_count ({ frames := 0, cells := 0, slots := 0, locals := 0 } : Room) D (wC ad cA) (tC cA) [.ref (ad 1), .int p1] sz σ r σ := by
  refine Met.ofW (cc := cX2_count) (maxL := 2) (ret := (some .int)) (by decide) rfl ?_
  intro p e s m args below meth c s₁ B hml hv
  obtain ⟨rfl, hsz, hP, hK, hD0, hNN⟩ := hv
  have hx := B.exec
  have hb := B.bytes
  have hr := B.returns
  have hts := atoms_spec (ws := wsX2_count) B.pre
  have hown : s.vm.findClass RX2 = some m.cls := findClass_of_methodNamed B.named
  have hlocks := B.notSynchronized
  subst hsz
  have hD := hD0.self (sz := s.heap.size)
  generalize hAe : va_A (wC ad cA σ) s.heap.size = A at hD ⊢
  have hA : ∀ q : Nat, s.heap.size ≤ q → A q := fun q h => by rw [← hAe]; exact Or.inr h
  clear hAe hD0
  have hS : va_S A s.heap s.heap [] := va_S.rf
  have hl := lv_entry ([.ref (ad 1), .int p1]) (n := 2) (Nat.le_of_ble_eq_true rfl)
  rw [lg_entry_eq]
  generalize (lg_sl ([.ref (ad 1), .int p1]) ++ List.replicate (2 - (lg_sl ([.ref (ad 1), .int p1])).length) Slot.unset).toArray = ls at hl ⊢
  have hl : lv_has ls 2 [(0, .ref (ad 1)), (1, .int p1)] := hl
  have hw0 := hts (.fieldLink RX2 9 "TrunkYards$Rows" "counts" "[I") (List.mem_cons_of_mem _ (List.mem_of_getElem? (i := 0) rfl))
  have hiX2 : ∀ w ∈ wsX20, w ∈ wsX2_count := fun w h => List.mem_cons_of_mem _ (List.mem_append_right _ h)
  unfold tyf_R1_count at hF
  refine lv_aload_n hx hb dX2_count_0 rfl (lv_at hl 0 rfl) ?_
  refine va_get (D := D) (ci := 2) (v := .ref (ad 6)) (C := RX2) (T := TX2) (N := 2) hx hb hts hiX2 hown hK hP 1 (wC_1 ad cA σ) rfl 0 (by decide) hw0 (fun _ h9 => h9) rfl dX2_count_1 ?_
  refine lv_iload_n hx hb dX2_count_4 rfl (lv_at hl 1 rfl) ?_
  obtain ⟨hb_1, hF⟩ := chk_some hF
  refine va_iald hx hb hK hP 6 0 (wC_6 ad cA σ) (tC_6 cA) hb_1 dX2_count_5 ?_
  exact g_iretR hx hb hr rfl hlocks hP hK hD hS dX2_count_6 hF
set_option maxHeartbeats 4000000 in
set_option maxRecDepth 100000 in
theorem tyc_R1_move (l : Launch) (D : va_G) (ad : Nat → Nat) (cA : Nat → ClassId) (sz : Nat) (σ : tyS) (p1 : Int32) (p2 : Int32) (p3 : Int32) (τ : tyS) (hF : tyf_R1_move σ p1 p2 p3 = some τ) : gMv l yX2_move wsX2_move ({ frames := 0, cells := 0, slots := 0, locals := 0 } : Room) D (wC ad cA) (tC cA) [.ref (ad 1), .int p1, .int p2, .int p3] sz σ τ := by
  refine Met.ofW (cc := cX2_move) (maxL := 7) (ret := none) (by decide) rfl ?_
  intro p e s m args below meth c s₁ B hml hv
  obtain ⟨rfl, hsz, hP, hK, hD0, hNN⟩ := hv
  have hx := B.exec
  have hb := B.bytes
  have hr := B.returns
  have hts := atoms_spec (ws := wsX2_move) B.pre
  have hown : s.vm.findClass RX2 = some m.cls := findClass_of_methodNamed B.named
  have hlocks := B.notSynchronized
  subst hsz
  have hD := hD0.self (sz := s.heap.size)
  generalize hAe : va_A (wC ad cA σ) s.heap.size = A at hD ⊢
  have hA : ∀ q : Nat, s.heap.size ≤ q → A q := fun q h => by rw [← hAe]; exact Or.inr h
  clear hAe hD0
  have hS : va_S A s.heap s.heap [] := va_S.rf
  have hl := lv_entry ([.ref (ad 1), .int p1, .int p2, .int p3]) (n := 7) (Nat.le_of_ble_eq_true rfl)
  rw [lg_entry_eq]
  generalize (lg_sl ([.ref (ad 1), .int p1, .int p2, .int p3]) ++ List.replicate (7 - (lg_sl ([.ref (ad 1), .int p1, .int p2, .int p3])).length) Slot.unset).toArray = ls at hl ⊢
  have hl : lv_has ls 7 [(0, .ref (ad 1)), (1, .int p1), (2, .int p2), (3, .int p3)] := hl
  have hw0 := hts (.fieldLink RX2 9 "TrunkYards$Rows" "counts" "[I") (List.mem_cons_of_mem _ (List.mem_of_getElem? (i := 0) rfl))
  have hiX2 : ∀ w ∈ wsX20, w ∈ wsX2_move := fun w h => List.mem_cons_of_mem _ (List.mem_append_right _ h)
  have hw2 := hts (.fieldLink RX2 15 "TrunkYards$Rows" "standing" "[I") (List.mem_cons_of_mem _ (List.mem_of_getElem? (i := 1) rfl))
  unfold tyf_R1_move at hF
  refine lv_iload_n hx hb dX2_move_0 rfl (lv_at hl 1 rfl) ?_
  refine lv_bipush (v := 6) hx hb dX2_move_1 (by decide) ?_
  refine lv_imul hx hb dX2_move_3 ?_
  refine lv_aload_n hx hb dX2_move_4 rfl (lv_at hl 0 rfl) ?_
  refine va_get (D := D) (ci := 2) (v := .ref (ad 6)) (C := RX2) (T := TX2) (N := 2) hx hb hts hiX2 hown hK hP 1 (wC_1 ad cA σ) rfl 0 (by decide) hw0 (fun _ h9 => h9) rfl dX2_move_5 ?_
  refine lv_iload_n hx hb dX2_move_8 rfl (lv_at hl 1 rfl) ?_
  obtain ⟨hb_1, hF⟩ := chk_some hF
  refine va_iald hx hb hK hP 6 0 (wC_6 ad cA σ) (tC_6 cA) hb_1 dX2_move_9 ?_
  refine lv_iadd hx hb dX2_move_10 ?_
  refine lv_iload_n hx hb dX2_move_11 rfl (lv_at hl 3 rfl) ?_
  refine lv_isub hx hb dX2_move_12 ?_
  refine lv_istore (lv' := [(4, .int (((p1 * 6) + (σ.1 6 (p1).toNatClampNeg)) - p3)), (0, .ref (ad 1)), (1, .int p1), (2, .int p2), (3, .int p3)]) hx hb dX2_move_13 hl (by decide) rfl (fun ls hl => ?_)
  refine lv_iload_n hx hb dX2_move_15 rfl (lv_at hl 3 rfl) ?_
  refine lv_bipush (v := 6) hx hb dX2_move_16 (by decide) ?_
  refine lv_imul hx hb dX2_move_18 ?_
  refine lv_aload_n hx hb dX2_move_19 rfl (lv_at hl 1 rfl) ?_
  refine va_get (D := D) (ci := 2) (v := .ref (ad 6)) (C := RX2) (T := TX2) (N := 2) hx hb hts hiX2 hown hK hP 1 (wC_1 ad cA σ) rfl 0 (by decide) hw0 (fun _ h9 => h9) rfl dX2_move_20 ?_
  refine lv_iload_n hx hb dX2_move_23 rfl (lv_at hl 3 rfl) ?_
  obtain ⟨hb_2, hF⟩ := chk_some hF
  refine va_iald hx hb hK hP 6 0 (wC_6 ad cA σ) (tC_6 cA) hb_2 dX2_move_24 ?_
  refine lv_iadd hx hb dX2_move_25 ?_
  refine lv_istore (lv' := [(5, .int ((p2 * 6) + (σ.1 6 (p2).toNatClampNeg))), (4, .int (((p1 * 6) + (σ.1 6 (p1).toNatClampNeg)) - p3)), (0, .ref (ad 1)), (1, .int p1), (2, .int p2), (3, .int p3)]) hx hb dX2_move_26 hl (by decide) rfl (fun ls hl => ?_)
  refine lv_iconst (v := 0) hx hb dX2_move_28 (by decide) ?_
  refine lv_istore (lv' := [(6, .int 0), (5, .int ((p2 * 6) + (σ.1 6 (p2).toNatClampNeg))), (4, .int (((p1 * 6) + (σ.1 6 (p1).toNatClampNeg)) - p3)), (0, .ref (ad 1)), (1, .int p1), (2, .int p2), (3, .int p3)]) hx hb dX2_move_29 hl (by decide) rfl (fun ls hl => ?_)
  have lp31 : ∀ (k : tyS → Int32 → Int32 → Int32 → Int32 → Int32 → Int32 → Option tyS), (∀ (σ0 : tyS) (x1 : Int32) (x2 : Int32) (x3 : Int32) (x4 : Int32) (x5 : Int32) (x6 : Int32) , k σ0 x1 x2 x3 x4 x5 x6 = some τ → ∀ (H : Heap) (locs : List Loc) (ls : Array Slot), va_P D vwCl (wC ad cA σ0) H → va_D A (wC ad cA σ0) → va_S A s.heap H locs → lv_has ls 7 [(0, .ref (ad 1)), (1, .int x1), (2, .int x2), (3, .int x3), (4, .int x4), (5, .int x5), (6, .int x6)] → W p l e (headSpec wsX2_move ({ frames := 0, cells := 0, slots := 0, locals := 0 } : Room)).room s m #[.ref (ad 1), .int p1, .int p2, .int p3] below meth c H locs 0 0 (MQ below (gQv D (wC ad cA) (tC cA) A τ) #[.ref (ad 1), .int p1, .int p2, .int p3] s 0 0 A) (F0 m 63 ls [])) → ∀ (n : Nat), ∀ (σ0 : tyS) (x1 : Int32) (x2 : Int32) (x3 : Int32) (x4 : Int32) (x5 : Int32) (x6 : Int32) , tyl_R1_move_31 k n σ0 x1 x2 x3 x4 x5 x6 = some τ → ∀ (H : Heap) (locs : List Loc) (ls : Array Slot), va_P D vwCl (wC ad cA σ0) H → va_D A (wC ad cA σ0) → va_S A s.heap H locs → lv_has ls 7 [(0, .ref (ad 1)), (1, .int x1), (2, .int x2), (3, .int x3), (4, .int x4), (5, .int x5), (6, .int x6)] → W p l e (headSpec wsX2_move ({ frames := 0, cells := 0, slots := 0, locals := 0 } : Room)).room s m #[.ref (ad 1), .int p1, .int p2, .int p3] below meth c H locs 0 0 (MQ below (gQv D (wC ad cA) (tC cA) A τ) #[.ref (ad 1), .int p1, .int p2, .int p3] s 0 0 A) (F0 m 31 ls []) := by
    intro k hk n
    induction n with
    | zero =>
      intro σ0 x1 x2 x3 x4 x5 x6 hF
      exact absurd hF (fun h => nomatch h)
    | succ n ih =>
      intro σ0 x1 x2 x3 x4 x5 x6 hF H locs ls hP hD hS hl
      have hF : tyb_R1_move_31 k (tyl_R1_move_31 k n) σ0 x1 x2 x3 x4 x5 x6 = some τ := hF
      unfold tyb_R1_move_31 at hF
      refine lv_iload hx hb dX2_move_31 (lv_at hl 6 rfl) ?_
      refine lv_iload_n hx hb dX2_move_33 rfl (lv_at hl 3 rfl) ?_
      refine lv_icmp_ge (tgt := 63) hx hb dX2_move_34 (by decide) (fun c_3 => ?_) (fun c_3 => ?_)
      · have hF := iteT hF c_3
        exact hk σ0 x1 x2 x3 x4 x5 x6 hF _ _ _ hP hD hS (lv_sub hl [0, 1, 2, 3, 4, 5, 6] rfl)
      · have hF := iteF hF c_3
        refine lv_aload_n hx hb dX2_move_37 rfl (lv_at hl 0 rfl) ?_
        refine va_get (D := D) (ci := 2) (v := .ref (ad 7)) (C := RX2) (T := TX2) (N := 2) hx hb hts hiX2 hown hK hP 1 (wC_1 ad cA σ0) rfl 1 (by decide) hw2 (fun _ h9 => h9) rfl dX2_move_38 ?_
        refine lv_iload hx hb dX2_move_41 (lv_at hl 5 rfl) ?_
        refine lv_iload hx hb dX2_move_43 (lv_at hl 6 rfl) ?_
        refine lv_iadd hx hb dX2_move_45 ?_
        refine lv_aload_n hx hb dX2_move_46 rfl (lv_at hl 0 rfl) ?_
        refine va_get (D := D) (ci := 2) (v := .ref (ad 7)) (C := RX2) (T := TX2) (N := 2) hx hb hts hiX2 hown hK hP 1 (wC_1 ad cA σ0) rfl 1 (by decide) hw2 (fun _ h9 => h9) rfl dX2_move_47 ?_
        refine lv_iload hx hb dX2_move_50 (lv_at hl 4 rfl) ?_
        refine lv_iload hx hb dX2_move_52 (lv_at hl 6 rfl) ?_
        refine lv_iadd hx hb dX2_move_54 ?_
        obtain ⟨hb_4, hF⟩ := chk_some hF
        refine va_iald hx hb hK hP 7 1 (wC_7 ad cA σ0) (tC_7 cA) hb_4 dX2_move_55 ?_
        obtain ⟨hb_5, hF⟩ := chk_some hF
        obtain ⟨σ6, e6, hF⟩ := stp_some hF
        refine gw_iast hx hb hK hP hD hS (wC_7 ad cA σ0) (tC_7 cA) (wCs_7 ad cA σ0) hb_5 dX2_move_56 e6 (fun H locs hP hD hS => ?_)
        refine lv_iinc (v := (x6 + 1)) (lv' := [(6, .int (x6 + 1)), (0, .ref (ad 1)), (1, .int x1), (2, .int x2), (3, .int x3), (4, .int x4), (5, .int x5)]) hx hb dX2_move_57 hl (k := 6) rfl rfl (by decide) rfl (fun ls hl => ?_)
        refine lv_goto (tgt := 31) hx hb dX2_move_60 (by decide) ?_
        exact ih σ6 x1 x2 x3 x4 x5 (x6 + 1) hF _ _ _ hP hD hS (lv_sub hl [1, 2, 3, 4, 5, 6, 0] rfl)
  refine lp31 _ ?_ 64 σ p1 p2 p3 (((p1 * 6) + (σ.1 6 (p1).toNatClampNeg)) - p3) ((p2 * 6) + (σ.1 6 (p2).toNatClampNeg)) 0 hF _ _ _ hP hD hS (lv_sub hl [3, 4, 5, 6, 2, 1, 0] rfl)
  intro σ0 x1 x2 x3 x4 x5 x6 hF H locs ls hP hD hS hl
  refine lv_aload_n hx hb dX2_move_63 rfl (lv_at hl 0 rfl) ?_
  refine va_get (D := D) (ci := 2) (v := .ref (ad 6)) (C := RX2) (T := TX2) (N := 2) hx hb hts hiX2 hown hK hP 1 (wC_1 ad cA σ0) rfl 0 (by decide) hw0 (fun _ h9 => h9) rfl dX2_move_64 ?_
  refine lv_iload_n hx hb dX2_move_67 rfl (lv_at hl 1 rfl) ?_
  refine lv_dup2_11 hx hb dX2_move_68 rfl rfl ?_
  obtain ⟨hb_7, hF⟩ := chk_some hF
  refine va_iald hx hb hK hP 6 0 (wC_6 ad cA σ0) (tC_6 cA) hb_7 dX2_move_69 ?_
  refine lv_iload_n hx hb dX2_move_70 rfl (lv_at hl 3 rfl) ?_
  refine lv_isub hx hb dX2_move_71 ?_
  obtain ⟨hb_8, hF⟩ := chk_some hF
  obtain ⟨σ9, e9, hF⟩ := stp_some hF
  refine gw_iast hx hb hK hP hD hS (wC_6 ad cA σ0) (tC_6 cA) (wCs_6 ad cA σ0) hb_8 dX2_move_72 e9 (fun H locs hP hD hS => ?_)
  refine lv_aload_n hx hb dX2_move_73 rfl (lv_at hl 0 rfl) ?_
  refine va_get (D := D) (ci := 2) (v := .ref (ad 6)) (C := RX2) (T := TX2) (N := 2) hx hb hts hiX2 hown hK hP 1 (wC_1 ad cA σ9) rfl 0 (by decide) hw0 (fun _ h9 => h9) rfl dX2_move_74 ?_
  refine lv_iload_n hx hb dX2_move_77 rfl (lv_at hl 2 rfl) ?_
  refine lv_dup2_11 hx hb dX2_move_78 rfl rfl ?_
  obtain ⟨hb_10, hF⟩ := chk_some hF
  refine va_iald hx hb hK hP 6 0 (wC_6 ad cA σ9) (tC_6 cA) hb_10 dX2_move_79 ?_
  refine lv_iload_n hx hb dX2_move_80 rfl (lv_at hl 3 rfl) ?_
  refine lv_iadd hx hb dX2_move_81 ?_
  obtain ⟨hb_11, hF⟩ := chk_some hF
  obtain ⟨σ12, e12, hF⟩ := stp_some hF
  refine gw_iast hx hb hK hP hD hS (wC_6 ad cA σ9) (tC_6 cA) (wCs_6 ad cA σ9) hb_11 dX2_move_82 e12 (fun H locs hP hD hS => ?_)
  exact g_vretN hx hb hr hlocks hP hK hD hS dX2_move_83 hF
set_option maxHeartbeats 4000000 in
set_option maxRecDepth 100000 in
theorem tyc_T_moveLast (l : Launch) (D : va_G) (ad : Nat → Nat) (cA : Nat → ClassId) (sz : Nat) (σ : tyS) (p1 : Int32) (p2 : Int32) (p3 : Int32) (τ : tyS) (hF : tyf_T_moveLast σ p1 p2 p3 = some τ) : gMv l yX4_moveLast wsX4_moveLast ({ frames := 1, cells := 0, slots := 0, locals := 26 } : Room) D (wC ad cA) (tC cA) [.ref (ad 0), .int p1, .int p2, .int p3] sz σ τ := by
  refine Met.ofW (cc := cX4_moveLast) (maxL := 4) (ret := none) (by decide) rfl ?_
  intro p e s m args below meth c s₁ B hml hv
  obtain ⟨rfl, hsz, hP, hK, hD0, hNN⟩ := hv
  have hx := B.exec
  have hb := B.bytes
  have hr := B.returns
  have hts := atoms_spec (ws := wsX4_moveLast) B.pre
  have hown : s.vm.findClass RX4 = some m.cls := findClass_of_methodNamed B.named
  have hlocks := B.notSynchronized
  subst hsz
  have hD := hD0.self (sz := s.heap.size)
  generalize hAe : va_A (wC ad cA σ) s.heap.size = A at hD ⊢
  have hA : ∀ q : Nat, s.heap.size ≤ q → A q := fun q h => by rw [← hAe]; exact Or.inr h
  clear hAe hD0
  have hS : va_S A s.heap s.heap [] := va_S.rf
  have hl := lv_entry ([.ref (ad 0), .int p1, .int p2, .int p3]) (n := 4) (Nat.le_of_ble_eq_true rfl)
  rw [lg_entry_eq]
  generalize (lg_sl ([.ref (ad 0), .int p1, .int p2, .int p3]) ++ List.replicate (4 - (lg_sl ([.ref (ad 0), .int p1, .int p2, .int p3])).length) Slot.unset).toArray = ls at hl ⊢
  have hl : lv_has ls 4 [(0, .ref (ad 0)), (1, .int p1), (2, .int p2), (3, .int p3)] := hl
  have hS9 : CallFix p m c cX4_moveLast 4 s _ wsX4_moveLast RX4 := ⟨hx, hb, hml, hown, hts⟩
  have hw0 := hts (.fieldLink RX4 12 "TrunkYards" "rows" "LTrunkYards$Rows;") (List.mem_cons_of_mem _ (List.mem_of_getElem? (i := 0) rfl))
  have hiX4 : ∀ w ∈ wsX40, w ∈ wsX4_moveLast := fun w h => List.mem_cons_of_mem _ (List.mem_append_left _ (List.mem_append_left _ (List.mem_append_right _ h)))
  have hw2 := hts (.fieldLink RX4 22 "TrunkYards" "history" "LTrunkYards$History;") (List.mem_cons_of_mem _ (List.mem_of_getElem? (i := 1) rfl))
  unfold tyf_T_moveLast at hF
  refine lv_aload_n hx hb dX4_moveLast_0 rfl (lv_at hl 0 rfl) ?_
  refine va_get (D := D) (ci := 4) (v := .ref (ad 1)) (C := RX4) (T := TX4) (N := 12) hx hb hts hiX4 hown hK hP 0 (wC_0 ad cA σ) rfl 0 (by decide) hw0 (fun _ h9 => h9) rfl dX4_moveLast_1 ?_
  refine lv_iload_n hx hb dX4_moveLast_4 rfl (lv_at hl 1 rfl) ?_
  refine lv_iload_n hx hb dX4_moveLast_5 rfl (lv_at hl 2 rfl) ?_
  refine lv_iload_n hx hb dX4_moveLast_6 rfl (lv_at hl 3 rfl) ?_
  obtain ⟨σ1, e1, hF⟩ := bR_some hF
  refine gc_Vv (As := [.int p1, .int p2, .int p3]) hS9 (tyc_R1_move l D ad cA _ σ p1 p2 p3 σ1 e1) (cwV 3 hts gX4_moveLast_X2_move rfl rfl rfl hd_X2_move ⟨by decide, by decide⟩) hK hP hD hS hA hNN (ci := 2) (q0 := 1) (N := 2) rfl (wC_1 ad cA σ) rfl hl.1 rfl (Nat.le_of_ble_eq_true rfl) dX4_moveLast_7 (fun H locs hP hD hS => ?_)
  refine lv_aload_n hx hb dX4_moveLast_10 rfl (lv_at hl 0 rfl) ?_
  refine va_get (D := D) (ci := 4) (v := .ref (ad 3)) (C := RX4) (T := TX4) (N := 12) hx hb hts hiX4 hown hK hP 0 (wC_0 ad cA σ1) rfl 2 (by decide) hw2 (fun _ h9 => h9) rfl dX4_moveLast_11 ?_
  refine lv_iload_n hx hb dX4_moveLast_14 rfl (lv_at hl 1 rfl) ?_
  refine lv_iload_n hx hb dX4_moveLast_15 rfl (lv_at hl 2 rfl) ?_
  refine lv_iload_n hx hb dX4_moveLast_16 rfl (lv_at hl 3 rfl) ?_
  obtain ⟨σ2, e2, hF⟩ := bR_some hF
  refine gc_Vv (As := [.int p1, .int p2, .int p3]) hS9 (tyc_H_noteMove l D ad cA _ σ1 p1 p2 p3 σ2 e2) (cwV 3 hts gX4_moveLast_X0_noteMove rfl rfl rfl hd_X0_noteMove ⟨by decide, by decide⟩) hK hP hD hS hA hNN (ci := 0) (q0 := 3) (N := 4) rfl (wC_3 ad cA σ1) rfl hl.1 rfl (Nat.le_of_ble_eq_true rfl) dX4_moveLast_17 (fun H locs hP hD hS => ?_)
  exact g_vretN hx hb hr hlocks hP hK hD hS dX4_moveLast_20 hF
set_option maxHeartbeats 4000000 in
set_option maxRecDepth 100000 in
theorem tyc_T_shunt (l : Launch) (D : va_G) (ad : Nat → Nat) (cA : Nat → ClassId) (sz : Nat) (σ : tyS) (p1 : Int32) (p2 : Int32) (p3 : Int32) (p4 : Int32) (res : tyX) (hl9 : l.stackTraces = false) (hF : tyf_T_shunt σ p1 p2 p3 p4 = some res) : gXi gStr l yX4_shunt wsX4_shunt ({ frames := 7, cells := 1, slots := 6, locals := 103 } : Room) D (wC ad cA) (tC cA) [.ref (ad 0), .int p1, .int p2, .int p3, .int p4] sz σ res := by
  refine ty_ofW (cc := cX4_shunt) (maxL := 7) (ret := (some .int)) (by decide) rfl ?_
  intro p e s m args below meth c s₁ B hml ht9 hv
  obtain ⟨rfl, ⟨hsz, hP, hK, hD0, hNN⟩, hOK⟩ := hv
  have hx := B.exec
  have hb := B.bytes
  have hr := B.returns
  have hts := atoms_spec (ws := wsX4_shunt) B.pre
  have hown : s.vm.findClass RX4 = some m.cls := findClass_of_methodNamed B.named
  have hlocks := B.notSynchronized
  subst hsz
  have hD := hD0.self (sz := s.heap.size)
  generalize hAe : va_A (wC ad cA σ) s.heap.size = A at hD hOK ⊢
  have hA : ∀ q : Nat, s.heap.size ≤ q → A q := fun q h => by rw [← hAe]; exact Or.inr h
  clear hAe hD0
  have hS : va_S A s.heap s.heap [] := va_S.rf
  have hl := lv_entry ([.ref (ad 0), .int p1, .int p2, .int p3, .int p4]) (n := 7) (Nat.le_of_ble_eq_true rfl)
  rw [lg_entry_eq]
  generalize (lg_sl ([.ref (ad 0), .int p1, .int p2, .int p3, .int p4]) ++ List.replicate (7 - (lg_sl ([.ref (ad 0), .int p1, .int p2, .int p3, .int p4])).length) Slot.unset).toArray = ls at hl ⊢
  have hl : lv_has ls 7 [(0, .ref (ad 0)), (1, .int p1), (2, .int p2), (3, .int p3), (4, .int p4)] := hl
  have hS9 : CallFix p m c cX4_shunt 7 s _ wsX4_shunt RX4 := ⟨hx, hb, hml, hown, hts⟩
  have hw0 := hts (.classLink RX4 86 "java/lang/IllegalArgumentException") (List.mem_cons_of_mem _ (List.mem_of_getElem? (i := 0) rfl))
  have hw1 := hts (.initialized "java/lang/IllegalArgumentException") (List.mem_cons_of_mem _ (List.mem_of_getElem? (i := 1) rfl))
  have hw2 := hts (.fieldLink RX4 12 "TrunkYards" "rows" "LTrunkYards$Rows;") (List.mem_cons_of_mem _ (List.mem_of_getElem? (i := 4) rfl))
  have hiX4 : ∀ w ∈ wsX40, w ∈ wsX4_shunt := fun w h => List.mem_cons_of_mem _ (List.mem_append_left _ (List.mem_append_left _ (List.mem_append_left _ (List.mem_append_left _ (List.mem_append_right _ h)))))
  have hw4 := hts (.classLink RX4 73 "java/lang/IllegalStateException") (List.mem_cons_of_mem _ (List.mem_of_getElem? (i := 2) rfl))
  have hw5 := hts (.initialized "java/lang/IllegalStateException") (List.mem_cons_of_mem _ (List.mem_of_getElem? (i := 3) rfl))
  unfold tyf_T_shunt at hF
  refine lv_iload_n hx hb dX4_shunt_0 rfl (lv_at hl 1 rfl) ?_
  refine lv_iload_n hx hb dX4_shunt_1 rfl (lv_at hl 2 rfl) ?_
  rcases bX_some hF with ⟨kr2, r2, σ1, er2, hF⟩ | ⟨r2, σ1, er2, hF⟩
  · exact gx_T (gx_runS (As := [.int p1, .int p2]) (Qc := gQXv D (wC ad cA) (tC cA) _ _) hS9 (tyc_T_requireTrack l D ad cA _ σ p1 p2 _ hl9 er2) (va_cwS 2 hts gX4_shunt_X4_requireTrack rfl rfl rfl hd_X4_requireTrack ⟨by decide, by decide⟩) hOK hK hP hD hS hA hNN rfl hl.1 rfl (Nat.le_of_ble_eq_true rfl) dX4_shunt_2 ⟨by decide, by decide⟩) (gx_nov rfl) rfl hF ht9 hlocks hK hD hS hA
  refine gx_Rv (rest2 := ([.int p1, .int p2])) (gx_runS (As := [.int p1, .int p2]) (Qc := gQXv D (wC ad cA) (tC cA) _ _) hS9 (tyc_T_requireTrack l D ad cA _ σ p1 p2 _ hl9 er2) (va_cwS 2 hts gX4_shunt_X4_requireTrack rfl rfl rfl hd_X4_requireTrack ⟨by decide, by decide⟩) hOK hK hP hD hS hA hNN rfl hl.1 rfl (Nat.le_of_ble_eq_true rfl) dX4_shunt_2 ⟨by decide, by decide⟩) rfl hK hD hS hA (fun H locs hP hD hS => ?_)
  refine lv_iload_n hx hb dX4_shunt_5 rfl (lv_at hl 1 rfl) ?_
  refine lv_iload_n hx hb dX4_shunt_6 rfl (lv_at hl 3 rfl) ?_
  rcases bX_some hF with ⟨kr4, r4, σ3, er4, hF⟩ | ⟨r4, σ3, er4, hF⟩
  · exact gx_T (gx_runS (As := [.int p1, .int p3]) (Qc := gQXv D (wC ad cA) (tC cA) _ _) hS9 (tyc_T_requireTrack l D ad cA _ σ1 p1 p3 _ hl9 er4) (va_cwS 2 hts gX4_shunt_X4_requireTrack rfl rfl rfl hd_X4_requireTrack ⟨by decide, by decide⟩) hOK hK hP hD hS hA hNN rfl hl.1 rfl (Nat.le_of_ble_eq_true rfl) dX4_shunt_7 ⟨by decide, by decide⟩) (gx_nov rfl) rfl hF ht9 hlocks hK hD hS hA
  refine gx_Rv (rest2 := ([.int p1, .int p3])) (gx_runS (As := [.int p1, .int p3]) (Qc := gQXv D (wC ad cA) (tC cA) _ _) hS9 (tyc_T_requireTrack l D ad cA _ σ1 p1 p3 _ hl9 er4) (va_cwS 2 hts gX4_shunt_X4_requireTrack rfl rfl rfl hd_X4_requireTrack ⟨by decide, by decide⟩) hOK hK hP hD hS hA hNN rfl hl.1 rfl (Nat.le_of_ble_eq_true rfl) dX4_shunt_7 ⟨by decide, by decide⟩) rfl hK hD hS hA (fun H locs hP hD hS => ?_)
  refine lv_iload_n hx hb dX4_shunt_10 rfl (lv_at hl 2 rfl) ?_
  refine lv_iload_n hx hb dX4_shunt_11 rfl (lv_at hl 3 rfl) ?_
  refine lv_icmp_eq (tgt := 28) hx hb dX4_shunt_12 (by decide) (fun c_5 => ?_) (fun c_5 => ?_)
  · have hF := iteT hF c_5
    exact gx_throwS (own := RX4) (cls := "java/lang/IllegalArgumentException") (text := "the tracks are the same, or many is out of range") (k := 0) hx hb hl9 hown rfl (by decide +kernel) hw0 hw1 (fun w h => hts w (List.mem_cons_of_mem _ (List.mem_append_left _ (List.mem_append_right _ h)))) gnoX4_90 ggdX4_86_90 hOK (List.mem_of_getElem? (i := 1) rfl) (by rw [hml]; exact hl.1) ht9 hlocks hP hK hD hS dX4_shunt_28 dX4_shunt_31 dX4_shunt_32 dX4_shunt_34 dX4_shunt_37 ⟨by decide, by decide, by decide, by decide⟩ hF
  · have hF := iteF hF c_5
    refine lv_iload hx hb dX4_shunt_15 (lv_at hl 4 rfl) ?_
    refine lv_iconst (v := 1) hx hb dX4_shunt_17 (by decide) ?_
    refine lv_icmp_lt (tgt := 28) hx hb dX4_shunt_18 (by decide) (fun c_6 => ?_) (fun c_6 => ?_)
    · have hF := iteT hF c_6
      exact gx_throwS (own := RX4) (cls := "java/lang/IllegalArgumentException") (text := "the tracks are the same, or many is out of range") (k := 0) hx hb hl9 hown rfl (by decide +kernel) hw0 hw1 (fun w h => hts w (List.mem_cons_of_mem _ (List.mem_append_left _ (List.mem_append_right _ h)))) gnoX4_90 ggdX4_86_90 hOK (List.mem_of_getElem? (i := 1) rfl) (by rw [hml]; exact hl.1) ht9 hlocks hP hK hD hS dX4_shunt_28 dX4_shunt_31 dX4_shunt_32 dX4_shunt_34 dX4_shunt_37 ⟨by decide, by decide, by decide, by decide⟩ hF
    · have hF := iteF hF c_6
      refine lv_iload hx hb dX4_shunt_21 (lv_at hl 4 rfl) ?_
      refine lv_bipush (v := 6) hx hb dX4_shunt_23 (by decide) ?_
      refine lv_icmp_le (tgt := 38) hx hb dX4_shunt_25 (by decide) (fun c_7 => ?_) (fun c_7 => ?_)
      · have hF := iteT hF c_7
        refine lv_iload_n hx hb dX4_shunt_38 rfl (lv_at hl 1 rfl) ?_
        refine lv_iload_n hx hb dX4_shunt_39 rfl (lv_at hl 2 rfl) ?_
        obtain ⟨r8, er8, hF⟩ := bR_some hF
        refine gc_Si (As := [.int p1, .int p2]) hS9 (tyc_T_rowOf l D ad cA _ σ3 p1 p2 r8 er8) (va_cwS 2 hts gX4_shunt_X4_rowOf rfl rfl rfl hd_X4_rowOf ⟨by decide, by decide⟩) hK hP hD hS hA hNN rfl hl.1 rfl (Nat.le_of_ble_eq_true rfl) dX4_shunt_40 (fun H locs hP hD hS => ?_)
        refine lv_istore (lv' := [(5, .int r8), (0, .ref (ad 0)), (1, .int p1), (2, .int p2), (3, .int p3), (4, .int p4)]) hx hb dX4_shunt_43 hl (by decide) rfl (fun ls hl => ?_)
        refine lv_iload_n hx hb dX4_shunt_45 rfl (lv_at hl 2 rfl) ?_
        refine lv_iload_n hx hb dX4_shunt_46 rfl (lv_at hl 4 rfl) ?_
        obtain ⟨r9, er9, hF⟩ := bR_some hF
        refine gc_Si (As := [.int p1, .int p3]) hS9 (tyc_T_rowOf l D ad cA _ σ3 p1 p3 r9 er9) (va_cwS 2 hts gX4_shunt_X4_rowOf rfl rfl rfl hd_X4_rowOf ⟨by decide, by decide⟩) hK hP hD hS hA hNN rfl hl.1 rfl (Nat.le_of_ble_eq_true rfl) dX4_shunt_47 (fun H locs hP hD hS => ?_)
        refine lv_istore (lv' := [(6, .int r9), (5, .int r8), (0, .ref (ad 0)), (1, .int p1), (2, .int p2), (3, .int p3), (4, .int p4)]) hx hb dX4_shunt_50 hl (by decide) rfl (fun ls hl => ?_)
        refine lv_iload hx hb dX4_shunt_52 (lv_at hl 6 rfl) ?_
        refine lv_aload_n hx hb dX4_shunt_54 rfl (lv_at hl 2 rfl) ?_
        refine va_get (D := D) (ci := 4) (v := .ref (ad 1)) (C := RX4) (T := TX4) (N := 12) hx hb hts hiX4 hown hK hP 0 (wC_0 ad cA σ3) rfl 0 (by decide) hw2 (fun _ h9 => h9) rfl dX4_shunt_55 ?_
        refine lv_iload hx hb dX4_shunt_58 (lv_at hl 1 rfl) ?_
        obtain ⟨r10, er10, hF⟩ := bR_some hF
        refine gc_Vi (As := [.int r8]) hS9 (tyc_R1_count l D ad cA _ σ3 r8 r10 er10) (cwV 1 hts gX4_shunt_X2_count rfl rfl rfl hd_X2_count ⟨by decide, by decide⟩) hK hP hD hS hA hNN (ci := 2) (q0 := 1) (N := 2) rfl (wC_1 ad cA σ3) rfl hl.1 rfl (Nat.le_of_ble_eq_true rfl) dX4_shunt_60 (fun H locs hP hD hS => ?_)
        refine lv_icmp_gt (tgt := 80) hx hb dX4_shunt_63 (by decide) (fun c_11 => ?_) (fun c_11 => ?_)
        · have hF := iteT hF c_11
          exact gx_throwS (own := RX4) (cls := "java/lang/IllegalStateException") (text := "not so many wagons, or not so much room") (k := 1) hx hb hl9 hown rfl (by decide +kernel) hw4 hw5 (fun w h => hts w (List.mem_cons_of_mem _ (List.mem_append_right _ h))) gnoX4_77 ggdX4_73_77 hOK (List.mem_of_getElem? (i := 2) rfl) (by rw [hml]; exact hl.1) ht9 hlocks hP hK hD hS dX4_shunt_80 dX4_shunt_83 dX4_shunt_84 dX4_shunt_86 dX4_shunt_89 ⟨by decide, by decide, by decide, by decide⟩ hF
        · have hF := iteF hF c_11
          refine lv_aload_n hx hb dX4_shunt_66 rfl (lv_at hl 2 rfl) ?_
          refine va_get (D := D) (ci := 4) (v := .ref (ad 1)) (C := RX4) (T := TX4) (N := 12) hx hb hts hiX4 hown hK hP 0 (wC_0 ad cA σ3) rfl 0 (by decide) hw2 (fun _ h9 => h9) rfl dX4_shunt_67 ?_
          refine lv_iload hx hb dX4_shunt_70 (lv_at hl 0 rfl) ?_
          refine lv_iload hx hb dX4_shunt_72 (lv_at hl 6 rfl) ?_
          obtain ⟨r12, er12, hF⟩ := bR_some hF
          refine gc_Vi (As := [.int r9, .int p4]) hS9 (tyc_R1_hasRoom l D ad cA _ σ3 r9 p4 r12 er12) (cwV 2 hts gX4_shunt_X2_hasRoom rfl rfl rfl hd_X2_hasRoom ⟨by decide, by decide⟩) hK hP hD hS hA hNN (ci := 2) (q0 := 1) (N := 2) rfl (wC_1 ad cA σ3) rfl hl.1 rfl (Nat.le_of_ble_eq_true rfl) dX4_shunt_74 (fun H locs hP hD hS => ?_)
          refine lv_if_ne (tgt := 90) hx hb dX4_shunt_77 (by decide) (fun c_13 => ?_) (fun c_13 => ?_)
          · have hF := iteF hF c_13
            refine lv_aload_n hx hb dX4_shunt_90 rfl (lv_at hl 2 rfl) ?_
            refine lv_iload hx hb dX4_shunt_91 (lv_at hl 1 rfl) ?_
            refine lv_iload hx hb dX4_shunt_93 (lv_at hl 0 rfl) ?_
            refine lv_iload hx hb dX4_shunt_95 (lv_at hl 6 rfl) ?_
            obtain ⟨σ14, e14, hF⟩ := bR_some hF
            refine gc_Vv (As := [.int r8, .int r9, .int p4]) hS9 (tyc_T_moveLast l D ad cA _ σ3 r8 r9 p4 σ14 e14) (cwV 3 hts gX4_shunt_X4_moveLast rfl rfl rfl hd_X4_moveLast ⟨by decide, by decide⟩) hK hP hD hS hA hNN (ci := 4) (q0 := 0) (N := 12) rfl (wC_0 ad cA σ3) rfl hl.1 rfl (Nat.le_of_ble_eq_true rfl) dX4_shunt_97 (fun H locs hP hD hS => ?_)
            refine lv_aload_n hx hb dX4_shunt_100 rfl (lv_at hl 2 rfl) ?_
            refine va_get (D := D) (ci := 4) (v := .ref (ad 1)) (C := RX4) (T := TX4) (N := 12) hx hb hts hiX4 hown hK hP 0 (wC_0 ad cA σ14) rfl 0 (by decide) hw2 (fun _ h9 => h9) rfl dX4_shunt_101 ?_
            refine lv_iload hx hb dX4_shunt_104 (lv_at hl 0 rfl) ?_
            obtain ⟨r15, er15, hF⟩ := bR_some hF
            refine gc_Vi (As := [.int r9]) hS9 (tyc_R1_count l D ad cA _ σ14 r9 r15 er15) (cwV 1 hts gX4_shunt_X2_count rfl rfl rfl hd_X2_count ⟨by decide, by decide⟩) hK hP hD hS hA hNN (ci := 2) (q0 := 1) (N := 2) rfl (wC_1 ad cA σ14) rfl hl.1 rfl (Nat.le_of_ble_eq_true rfl) dX4_shunt_106 (fun H locs hP hD hS => ?_)
            exact g_iretX hx hb hr rfl hlocks hP hK hD hS dX4_shunt_109 hF
          · have hF := iteT hF c_13
            exact gx_throwS (own := RX4) (cls := "java/lang/IllegalStateException") (text := "not so many wagons, or not so much room") (k := 1) hx hb hl9 hown rfl (by decide +kernel) hw4 hw5 (fun w h => hts w (List.mem_cons_of_mem _ (List.mem_append_right _ h))) gnoX4_77 ggdX4_73_77 hOK (List.mem_of_getElem? (i := 2) rfl) (by rw [hml]; exact hl.1) ht9 hlocks hP hK hD hS dX4_shunt_80 dX4_shunt_83 dX4_shunt_84 dX4_shunt_86 dX4_shunt_89 ⟨by decide, by decide, by decide, by decide⟩ hF
      · have hF := iteF hF c_7
        exact gx_throwS (own := RX4) (cls := "java/lang/IllegalArgumentException") (text := "the tracks are the same, or many is out of range") (k := 0) hx hb hl9 hown rfl (by decide +kernel) hw0 hw1 (fun w h => hts w (List.mem_cons_of_mem _ (List.mem_append_left _ (List.mem_append_right _ h)))) gnoX4_90 ggdX4_86_90 hOK (List.mem_of_getElem? (i := 1) rfl) (by rw [hml]; exact hl.1) ht9 hlocks hP hK hD hS dX4_shunt_28 dX4_shunt_31 dX4_shunt_32 dX4_shunt_34 dX4_shunt_37 ⟨by decide, by decide, by decide, by decide⟩ hF
set_option maxHeartbeats 4000000 in
set_option maxRecDepth 100000 in
theorem tyc_T_requireYard (l : Launch) (D : va_G) (ad : Nat → Nat) (cA : Nat → ClassId) (sz : Nat) (σ : tyS) (p0 : Int32) (res : tyX) (hl9 : l.stackTraces = false) (hF : tyf_T_requireYard σ p0 = some res) : gXv gStr l yX4_requireYard wsX4_requireYard ({ frames := 6, cells := 1, slots := 6, locals := 82 } : Room) D (wC ad cA) (tC cA) [.int p0] sz σ res := by
  refine ty_ofW (cc := cX4_requireYard) (maxL := 1) (ret := none) (by decide) rfl ?_
  intro p e s m args below meth c s₁ B hml ht9 hv
  obtain ⟨rfl, ⟨hsz, hP, hK, hD0, hNN⟩, hOK⟩ := hv
  have hx := B.exec
  have hb := B.bytes
  have hr := B.returns
  have hts := atoms_spec (ws := wsX4_requireYard) B.pre
  have hown : s.vm.findClass RX4 = some m.cls := findClass_of_methodNamed B.named
  have hlocks := B.notSynchronized
  subst hsz
  have hD := hD0.self (sz := s.heap.size)
  generalize hAe : va_A (wC ad cA σ) s.heap.size = A at hD hOK ⊢
  have hA : ∀ q : Nat, s.heap.size ≤ q → A q := fun q h => by rw [← hAe]; exact Or.inr h
  clear hAe hD0
  have hS : va_S A s.heap s.heap [] := va_S.rf
  have hl := lv_entry ([.int p0]) (n := 1) (Nat.le_of_ble_eq_true rfl)
  rw [lg_entry_eq]
  generalize (lg_sl ([.int p0]) ++ List.replicate (1 - (lg_sl ([.int p0])).length) Slot.unset).toArray = ls at hl ⊢
  have hl : lv_has ls 1 [(0, .int p0)] := hl
  have hS9 : CallFix p m c cX4_requireYard 1 s _ wsX4_requireYard RX4 := ⟨hx, hb, hml, hown, hts⟩
  have hw0 := hts (.classLink RX4 86 "java/lang/IllegalArgumentException") (List.mem_cons_of_mem _ (List.mem_of_getElem? (i := 0) rfl))
  have hw1 := hts (.initialized "java/lang/IllegalArgumentException") (List.mem_cons_of_mem _ (List.mem_of_getElem? (i := 1) rfl))
  unfold tyf_T_requireYard at hF
  refine lv_iload_n hx hb dX4_requireYard_0 rfl (lv_at hl 0 rfl) ?_
  obtain ⟨r1, er1, hF⟩ := bR_some hF
  refine gc_Si (As := [.int p0]) hS9 (tyc_T_isYard l D ad cA _ σ p0 r1 er1) (va_cwS 1 hts gX4_requireYard_X4_isYard rfl rfl rfl hd_X4_isYard ⟨by decide, by decide⟩) hK hP hD hS hA hNN rfl hl.1 rfl (Nat.le_of_ble_eq_true rfl) dX4_requireYard_1 (fun H locs hP hD hS => ?_)
  refine lv_if_ne (tgt := 18) hx hb dX4_requireYard_4 (by decide) (fun c_2 => ?_) (fun c_2 => ?_)
  · have hF := iteF hF c_2
    exact g_vretX hx hb hr hlocks hP hK hD hS dX4_requireYard_18 hF
  · have hF := iteT hF c_2
    exact gx_throwSW (own := RX4) (cls := "java/lang/IllegalArgumentException") (text := "yard is out of range") (k := 0) hx hb hl9 hown rfl (by decide +kernel) hw0 hw1 (fun w h => hts w (List.mem_cons_of_mem _ (List.mem_append_right _ h))) gnoX4_90 ggdX4_86_90 hOK (List.mem_of_getElem? (i := 24) rfl) (by rw [hml]; exact hl.1) ht9 hlocks hP hK hD hS dX4_requireYard_7 dX4_requireYard_10 dX4_requireYard_11 dX4_requireYard_14 dX4_requireYard_17 ⟨by decide, by decide, by decide, by decide⟩ hF
set_option maxHeartbeats 4000000 in
set_option maxRecDepth 100000 in
theorem tyc_R1_get (l : Launch) (D : va_G) (ad : Nat → Nat) (cA : Nat → ClassId) (sz : Nat) (σ : tyS) (p1 : Int32) (p2 : Int32) (r : Int32) (hF : tyf_R1_get σ p1 p2 = some r) : gMi l yX2_get wsX2_get ({ frames := 0, cells := 0, slots := 0, locals := 0 } : Room) D (wC ad cA) (tC cA) [.ref (ad 1), .int p1, .int p2] sz σ r σ := by
  refine Met.ofW (cc := cX2_get) (maxL := 3) (ret := (some .int)) (by decide) rfl ?_
  intro p e s m args below meth c s₁ B hml hv
  obtain ⟨rfl, hsz, hP, hK, hD0, hNN⟩ := hv
  have hx := B.exec
  have hb := B.bytes
  have hr := B.returns
  have hts := atoms_spec (ws := wsX2_get) B.pre
  have hown : s.vm.findClass RX2 = some m.cls := findClass_of_methodNamed B.named
  have hlocks := B.notSynchronized
  subst hsz
  have hD := hD0.self (sz := s.heap.size)
  generalize hAe : va_A (wC ad cA σ) s.heap.size = A at hD ⊢
  have hA : ∀ q : Nat, s.heap.size ≤ q → A q := fun q h => by rw [← hAe]; exact Or.inr h
  clear hAe hD0
  have hS : va_S A s.heap s.heap [] := va_S.rf
  have hl := lv_entry ([.ref (ad 1), .int p1, .int p2]) (n := 3) (Nat.le_of_ble_eq_true rfl)
  rw [lg_entry_eq]
  generalize (lg_sl ([.ref (ad 1), .int p1, .int p2]) ++ List.replicate (3 - (lg_sl ([.ref (ad 1), .int p1, .int p2])).length) Slot.unset).toArray = ls at hl ⊢
  have hl : lv_has ls 3 [(0, .ref (ad 1)), (1, .int p1), (2, .int p2)] := hl
  have hw0 := hts (.fieldLink RX2 15 "TrunkYards$Rows" "standing" "[I") (List.mem_cons_of_mem _ (List.mem_of_getElem? (i := 0) rfl))
  have hiX2 : ∀ w ∈ wsX20, w ∈ wsX2_get := fun w h => List.mem_cons_of_mem _ (List.mem_append_right _ h)
  unfold tyf_R1_get at hF
  refine lv_aload_n hx hb dX2_get_0 rfl (lv_at hl 0 rfl) ?_
  refine va_get (D := D) (ci := 2) (v := .ref (ad 7)) (C := RX2) (T := TX2) (N := 2) hx hb hts hiX2 hown hK hP 1 (wC_1 ad cA σ) rfl 1 (by decide) hw0 (fun _ h9 => h9) rfl dX2_get_1 ?_
  refine lv_iload_n hx hb dX2_get_4 rfl (lv_at hl 1 rfl) ?_
  refine lv_bipush (v := 6) hx hb dX2_get_5 (by decide) ?_
  refine lv_imul hx hb dX2_get_7 ?_
  refine lv_iload_n hx hb dX2_get_8 rfl (lv_at hl 2 rfl) ?_
  refine lv_iadd hx hb dX2_get_9 ?_
  obtain ⟨hb_1, hF⟩ := chk_some hF
  refine va_iald hx hb hK hP 7 1 (wC_7 ad cA σ) (tC_7 cA) hb_1 dX2_get_10 ?_
  exact g_iretR hx hb hr rfl hlocks hP hK hD hS dX2_get_11 hF
set_option maxHeartbeats 4000000 in
set_option maxRecDepth 100000 in
theorem tyc_T_wash (l : Launch) (D : va_G) (ad : Nat → Nat) (cA : Nat → ClassId) (sz : Nat) (σ : tyS) (p1 : Int32) (res : tyX) (hl9 : l.stackTraces = false) (hF : tyf_T_wash σ p1 = some res) : gXi gStr l yX4_wash wsX4_wash ({ frames := 7, cells := 1, slots := 6, locals := 102 } : Room) D (wC ad cA) (tC cA) [.ref (ad 0), .int p1] sz σ res := by
  refine ty_ofW (cc := cX4_wash) (maxL := 6) (ret := (some .int)) (by decide) rfl ?_
  intro p e s m args below meth c s₁ B hml ht9 hv
  obtain ⟨rfl, ⟨hsz, hP, hK, hD0, hNN⟩, hOK⟩ := hv
  have hx := B.exec
  have hb := B.bytes
  have hr := B.returns
  have hts := atoms_spec (ws := wsX4_wash) B.pre
  have hown : s.vm.findClass RX4 = some m.cls := findClass_of_methodNamed B.named
  have hlocks := B.notSynchronized
  subst hsz
  have hD := hD0.self (sz := s.heap.size)
  generalize hAe : va_A (wC ad cA σ) s.heap.size = A at hD hOK ⊢
  have hA : ∀ q : Nat, s.heap.size ≤ q → A q := fun q h => by rw [← hAe]; exact Or.inr h
  clear hAe hD0
  have hS : va_S A s.heap s.heap [] := va_S.rf
  have hl := lv_entry ([.ref (ad 0), .int p1]) (n := 6) (Nat.le_of_ble_eq_true rfl)
  rw [lg_entry_eq]
  generalize (lg_sl ([.ref (ad 0), .int p1]) ++ List.replicate (6 - (lg_sl ([.ref (ad 0), .int p1])).length) Slot.unset).toArray = ls at hl ⊢
  have hl : lv_has ls 6 [(0, .ref (ad 0)), (1, .int p1)] := hl
  have hS9 : CallFix p m c cX4_wash 6 s _ wsX4_wash RX4 := ⟨hx, hb, hml, hown, hts⟩
  have hw0 := hts (.fieldLink RX4 12 "TrunkYards" "rows" "LTrunkYards$Rows;") (List.mem_cons_of_mem _ (List.mem_of_getElem? (i := 2) rfl))
  have hiX4 : ∀ w ∈ wsX40, w ∈ wsX4_wash := fun w h => List.mem_cons_of_mem _ (List.mem_append_left _ (List.mem_append_left _ (List.mem_append_left _ (List.mem_append_right _ h))))
  have hw2 := hts (.fieldLink RX4 40 "TrunkYards" "lastGrain" "[I") (List.mem_cons_of_mem _ (List.mem_of_getElem? (i := 3) rfl))
  have hw3 := hts (.classLink RX4 73 "java/lang/IllegalStateException") (List.mem_cons_of_mem _ (List.mem_of_getElem? (i := 0) rfl))
  have hw4 := hts (.initialized "java/lang/IllegalStateException") (List.mem_cons_of_mem _ (List.mem_of_getElem? (i := 1) rfl))
  unfold tyf_T_wash at hF
  refine lv_iload_n hx hb dX4_wash_0 rfl (lv_at hl 1 rfl) ?_
  rcases bX_some hF with ⟨kr2, r2, σ1, er2, hF⟩ | ⟨r2, σ1, er2, hF⟩
  · exact gx_T (gx_runS (As := [.int p1]) (Qc := gQXv D (wC ad cA) (tC cA) _ _) hS9 (tyc_T_requireYard l D ad cA _ σ p1 _ hl9 er2) (va_cwS 1 hts gX4_wash_X4_requireYard rfl rfl rfl hd_X4_requireYard ⟨by decide, by decide⟩) hOK hK hP hD hS hA hNN rfl hl.1 rfl (Nat.le_of_ble_eq_true rfl) dX4_wash_1 ⟨by decide, by decide⟩) (gx_nov rfl) rfl hF ht9 hlocks hK hD hS hA
  refine gx_Rv (rest2 := ([.int p1])) (gx_runS (As := [.int p1]) (Qc := gQXv D (wC ad cA) (tC cA) _ _) hS9 (tyc_T_requireYard l D ad cA _ σ p1 _ hl9 er2) (va_cwS 1 hts gX4_wash_X4_requireYard rfl rfl rfl hd_X4_requireYard ⟨by decide, by decide⟩) hOK hK hP hD hS hA hNN rfl hl.1 rfl (Nat.le_of_ble_eq_true rfl) dX4_wash_1 ⟨by decide, by decide⟩) rfl hK hD hS hA (fun H locs hP hD hS => ?_)
  refine lv_iload_n hx hb dX4_wash_4 rfl (lv_at hl 1 rfl) ?_
  refine lv_iconst (v := 0) hx hb dX4_wash_5 (by decide) ?_
  obtain ⟨r3, er3, hF⟩ := bR_some hF
  refine gc_Si (As := [.int p1, .int 0]) hS9 (tyc_T_rowOf l D ad cA _ σ1 p1 0 r3 er3) (va_cwS 2 hts gX4_wash_X4_rowOf rfl rfl rfl hd_X4_rowOf ⟨by decide, by decide⟩) hK hP hD hS hA hNN rfl hl.1 rfl (Nat.le_of_ble_eq_true rfl) dX4_wash_6 (fun H locs hP hD hS => ?_)
  refine lv_istore_n (lv' := [(2, .int r3), (0, .ref (ad 0)), (1, .int p1)]) hx hb dX4_wash_9 rfl hl (by decide) rfl (fun ls hl => ?_)
  refine lv_aload_n hx hb dX4_wash_10 rfl (lv_at hl 1 rfl) ?_
  refine va_get (D := D) (ci := 4) (v := .ref (ad 1)) (C := RX4) (T := TX4) (N := 12) hx hb hts hiX4 hown hK hP 0 (wC_0 ad cA σ1) rfl 0 (by decide) hw0 (fun _ h9 => h9) rfl dX4_wash_11 ?_
  refine lv_iload_n hx hb dX4_wash_14 rfl (lv_at hl 0 rfl) ?_
  obtain ⟨r4, er4, hF⟩ := bR_some hF
  refine gc_Vi (As := [.int r3]) hS9 (tyc_R1_count l D ad cA _ σ1 r3 r4 er4) (cwV 1 hts gX4_wash_X2_count rfl rfl rfl hd_X2_count ⟨by decide, by decide⟩) hK hP hD hS hA hNN (ci := 2) (q0 := 1) (N := 2) rfl (wC_1 ad cA σ1) rfl hl.1 rfl (Nat.le_of_ble_eq_true rfl) dX4_wash_15 (fun H locs hP hD hS => ?_)
  refine lv_istore_n (lv' := [(3, .int r4), (2, .int r3), (0, .ref (ad 0)), (1, .int p1)]) hx hb dX4_wash_18 rfl hl (by decide) rfl (fun ls hl => ?_)
  refine lv_iload_n hx hb dX4_wash_19 rfl (lv_at hl 0 rfl) ?_
  refine lv_if_ne (tgt := 33) hx hb dX4_wash_20 (by decide) (fun c_5 => ?_) (fun c_5 => ?_)
  · have hF := iteF hF c_5
    refine lv_aload_n hx hb dX4_wash_33 rfl (lv_at hl 2 rfl) ?_
    refine va_get (D := D) (ci := 4) (v := .ref (ad 1)) (C := RX4) (T := TX4) (N := 12) hx hb hts hiX4 hown hK hP 0 (wC_0 ad cA σ1) rfl 0 (by decide) hw0 (fun _ h9 => h9) rfl dX4_wash_34 ?_
    refine lv_iload_n hx hb dX4_wash_37 rfl (lv_at hl 1 rfl) ?_
    refine lv_iload_n hx hb dX4_wash_38 rfl (lv_at hl 0 rfl) ?_
    refine lv_iconst (v := 1) hx hb dX4_wash_39 (by decide) ?_
    refine lv_isub hx hb dX4_wash_40 ?_
    obtain ⟨r6, er6, hF⟩ := bR_some hF
    refine gc_Vi (As := [.int r3, .int (r4 - 1)]) hS9 (tyc_R1_get l D ad cA _ σ1 r3 (r4 - 1) r6 er6) (cwV 2 hts gX4_wash_X2_get rfl rfl rfl hd_X2_get ⟨by decide, by decide⟩) hK hP hD hS hA hNN (ci := 2) (q0 := 1) (N := 2) rfl (wC_1 ad cA σ1) rfl hl.1 rfl (Nat.le_of_ble_eq_true rfl) dX4_wash_41 (fun H locs hP hD hS => ?_)
    refine lv_istore (lv' := [(4, .int r6), (3, .int r4), (2, .int r3), (0, .ref (ad 0)), (1, .int p1)]) hx hb dX4_wash_44 hl (by decide) rfl (fun ls hl => ?_)
    refine lv_aload_n hx hb dX4_wash_46 rfl (lv_at hl 3 rfl) ?_
    refine va_get (D := D) (ci := 4) (v := .ref (ad 29)) (C := RX4) (T := TX4) (N := 12) hx hb hts hiX4 hown hK hP 0 (wC_0 ad cA σ1) rfl 5 (by decide) hw2 (fun _ h9 => h9) rfl dX4_wash_47 ?_
    refine lv_iload hx hb dX4_wash_50 (lv_at hl 0 rfl) ?_
    obtain ⟨hb_7, hF⟩ := chk_some hF
    refine va_iald hx hb hK hP 29 23 (wC_29 ad cA σ1) (tC_29 cA) hb_7 dX4_wash_52 ?_
    refine lv_istore (lv' := [(5, .int (σ1.1 29 (r6).toNatClampNeg)), (4, .int r6), (3, .int r4), (2, .int r3), (0, .ref (ad 0)), (1, .int p1)]) hx hb dX4_wash_53 hl (by decide) rfl (fun ls hl => ?_)
    refine lv_aload_n hx hb dX4_wash_55 rfl (lv_at hl 4 rfl) ?_
    refine va_get (D := D) (ci := 4) (v := .ref (ad 29)) (C := RX4) (T := TX4) (N := 12) hx hb hts hiX4 hown hK hP 0 (wC_0 ad cA σ1) rfl 5 (by decide) hw2 (fun _ h9 => h9) rfl dX4_wash_56 ?_
    refine lv_iload hx hb dX4_wash_59 (lv_at hl 1 rfl) ?_
    refine lv_iconst (v := (-1)) hx hb dX4_wash_61 (by decide) ?_
    obtain ⟨hb_8, hF⟩ := chk_some hF
    obtain ⟨σ9, e9, hF⟩ := stp_some hF
    refine gw_iast hx hb hK hP hD hS (wC_29 ad cA σ1) (tC_29 cA) (wCs_29 ad cA σ1) hb_8 dX4_wash_62 e9 (fun H locs hP hD hS => ?_)
    refine lv_iload hx hb dX4_wash_63 (lv_at hl 0 rfl) ?_
    exact g_iretX hx hb hr rfl hlocks hP hK hD hS dX4_wash_65 hF
  · have hF := iteT hF c_5
    exact gx_throwS (own := RX4) (cls := "java/lang/IllegalStateException") (text := "there is no wagon") (k := 1) hx hb hl9 hown rfl (by decide +kernel) hw3 hw4 (fun w h => hts w (List.mem_cons_of_mem _ (List.mem_append_left _ (List.mem_append_right _ h)))) gnoX4_77 ggdX4_73_77 hOK (List.mem_of_getElem? (i := 3) rfl) (by rw [hml]; exact hl.1) ht9 hlocks hP hK hD hS dX4_wash_23 dX4_wash_26 dX4_wash_27 dX4_wash_29 dX4_wash_32 ⟨by decide, by decide, by decide, by decide⟩ hF
set_option maxHeartbeats 4000000 in
set_option maxRecDepth 100000 in
theorem tyc_T_isGrain (l : Launch) (D : va_G) (ad : Nat → Nat) (cA : Nat → ClassId) (sz : Nat) (σ : tyS) (p0 : Int32) (r : Int32) (hF : tyf_T_isGrain σ p0 = some r) : gMi l yX4_isGrain wsX4_isGrain ({ frames := 0, cells := 0, slots := 0, locals := 0 } : Room) D (wC ad cA) (tC cA) [.int p0] sz σ r σ := by
  refine Met.ofW (cc := cX4_isGrain) (maxL := 1) (ret := (some .boolean)) (by decide) rfl ?_
  intro p e s m args below meth c s₁ B hml hv
  obtain ⟨rfl, hsz, hP, hK, hD0, hNN⟩ := hv
  have hx := B.exec
  have hb := B.bytes
  have hr := B.returns
  have hts := atoms_spec (ws := wsX4_isGrain) B.pre
  have hown : s.vm.findClass RX4 = some m.cls := findClass_of_methodNamed B.named
  have hlocks := B.notSynchronized
  subst hsz
  have hD := hD0.self (sz := s.heap.size)
  generalize hAe : va_A (wC ad cA σ) s.heap.size = A at hD ⊢
  have hA : ∀ q : Nat, s.heap.size ≤ q → A q := fun q h => by rw [← hAe]; exact Or.inr h
  clear hAe hD0
  have hS : va_S A s.heap s.heap [] := va_S.rf
  have hl := lv_entry ([.int p0]) (n := 1) (Nat.le_of_ble_eq_true rfl)
  rw [lg_entry_eq]
  generalize (lg_sl ([.int p0]) ++ List.replicate (1 - (lg_sl ([.int p0])).length) Slot.unset).toArray = ls at hl ⊢
  have hl : lv_has ls 1 [(0, .int p0)] := hl
  unfold tyf_T_isGrain at hF
  refine lv_iload_n hx hb dX4_isGrain_0 rfl (lv_at hl 0 rfl) ?_
  refine lv_if_lt (tgt := 13) hx hb dX4_isGrain_1 (by decide) (fun c_1 => ?_) (fun c_1 => ?_)
  · have hF := iteT hF c_1
    refine lv_iconst (v := 0) hx hb dX4_isGrain_13 (by decide) ?_
    exact g_iretR hx hb hr rfl hlocks hP hK hD hS dX4_isGrain_14 hF
  · have hF := iteF hF c_1
    refine lv_iload_n hx hb dX4_isGrain_4 rfl (lv_at hl 0 rfl) ?_
    refine lv_iconst (v := 4) hx hb dX4_isGrain_5 (by decide) ?_
    refine lv_icmp_ge (tgt := 13) hx hb dX4_isGrain_6 (by decide) (fun c_2 => ?_) (fun c_2 => ?_)
    · have hF := iteT hF c_2
      refine lv_iconst (v := 0) hx hb dX4_isGrain_13 (by decide) ?_
      exact g_iretR hx hb hr rfl hlocks hP hK hD hS dX4_isGrain_14 hF
    · have hF := iteF hF c_2
      refine lv_iconst (v := 1) hx hb dX4_isGrain_9 (by decide) ?_
      refine lv_goto (tgt := 14) hx hb dX4_isGrain_10 (by decide) ?_
      exact g_iretR hx hb hr rfl hlocks hP hK hD hS dX4_isGrain_14 hF
