set_option maxHeartbeats 4000000 in
set_option maxRecDepth 100000 in
theorem tyc_M_thrown (l : Launch) (D : va_G) (ad : Nat → Nat) (cA : Nat → ClassId) (sz : Nat) (σ : tyS) (r : Int32) (hF : tyf_M_thrown σ  = some r) : gMi l yX5_thrown wsX5_thrown ({ frames := 0, cells := 0, slots := 0, locals := 0 } : Room) D (wM ad cA) (tM cA) [.ref (ad 0)] sz σ r σ := by
  refine Met.ofW (cc := cX5_thrown) (maxL := 1) (ret := (some .int)) (by decide) rfl ?_
  intro p e s m args below meth c s₁ B hml hv
  obtain ⟨rfl, hsz, hP, hK, hD0, hNN⟩ := hv
  have hx := B.exec
  have hb := B.bytes
  have hr := B.returns
  have hts := atoms_spec (ws := wsX5_thrown) B.pre
  have hown : s.vm.findClass RX5 = some m.cls := findClass_of_methodNamed B.named
  have hlocks := B.notSynchronized
  subst hsz
  have hD := hD0.self (sz := s.heap.size)
  generalize hAe : va_A (wM ad cA σ) s.heap.size = A at hD ⊢
  have hA : ∀ q : Nat, s.heap.size ≤ q → A q := fun q h => by rw [← hAe]; exact Or.inr h
  clear hAe hD0
  have hS : va_S A s.heap s.heap [] := va_S.rf
  have hl := lv_entry ([.ref (ad 0)]) (n := 1) (Nat.le_of_ble_eq_true rfl)
  rw [lg_entry_eq]
  generalize (lg_sl ([.ref (ad 0)]) ++ List.replicate (1 - (lg_sl ([.ref (ad 0)])).length) Slot.unset).toArray = ls at hl ⊢
  have hl : lv_has ls 1 [(0, .ref (ad 0))] := hl
  have hw0 := hts (.fieldLink RX5 80 "TrunkYardsModel" "thrown" "I") (List.mem_cons_of_mem _ (List.mem_of_getElem? (i := 0) rfl))
  have hiX5 : ∀ w ∈ wsX50, w ∈ wsX5_thrown := fun w h => List.mem_cons_of_mem _ (List.mem_append_right _ h)
  unfold tyf_M_thrown at hF
  refine lv_aload_n hx hb dX5_thrown_0 rfl (lv_at hl 0 rfl) ?_
  refine va_get (D := D) (ci := 5) (v := .int (σ.2 0)) (C := RX5) (T := TX5) (N := 30) hx hb hts hiX5 hown hK hP 0 (wM_0 ad cA σ) rfl 0 (by decide) hw0 (fun _ h9 => h9) rfl dX5_thrown_1 ?_
  exact g_iretR hx hb hr rfl hlocks hP hK hD hS dX5_thrown_4 hF
set_option maxHeartbeats 4000000 in
set_option maxRecDepth 100000 in
theorem tyc_M_in (l : Launch) (D : va_G) (ad : Nat → Nat) (cA : Nat → ClassId) (sz : Nat) (σ : tyS) (p0 : Int32) (p1 : Int32) (p2 : Int32) (r : Int32) (hF : tyf_M_in σ p0 p1 p2 = some r) : gMi l yX5_in wsX5_in ({ frames := 0, cells := 0, slots := 0, locals := 0 } : Room) D (wM ad cA) (tM cA) [.int p0, .int p1, .int p2] sz σ r σ := by
  refine Met.ofW (cc := cX5_in) (maxL := 3) (ret := (some .boolean)) (by decide) rfl ?_
  intro p e s m args below meth c s₁ B hml hv
  obtain ⟨rfl, hsz, hP, hK, hD0, hNN⟩ := hv
  have hx := B.exec
  have hb := B.bytes
  have hr := B.returns
  have hts := atoms_spec (ws := wsX5_in) B.pre
  have hown : s.vm.findClass RX5 = some m.cls := findClass_of_methodNamed B.named
  have hlocks := B.notSynchronized
  subst hsz
  have hD := hD0.self (sz := s.heap.size)
  generalize hAe : va_A (wM ad cA σ) s.heap.size = A at hD ⊢
  have hA : ∀ q : Nat, s.heap.size ≤ q → A q := fun q h => by rw [← hAe]; exact Or.inr h
  clear hAe hD0
  have hS : va_S A s.heap s.heap [] := va_S.rf
  have hl := lv_entry ([.int p0, .int p1, .int p2]) (n := 3) (Nat.le_of_ble_eq_true rfl)
  rw [lg_entry_eq]
  generalize (lg_sl ([.int p0, .int p1, .int p2]) ++ List.replicate (3 - (lg_sl ([.int p0, .int p1, .int p2])).length) Slot.unset).toArray = ls at hl ⊢
  have hl : lv_has ls 3 [(0, .int p0), (1, .int p1), (2, .int p2)] := hl
  unfold tyf_M_in at hF
  refine lv_iload_n hx hb dX5_in_0 rfl (lv_at hl 0 rfl) ?_
  refine lv_iload_n hx hb dX5_in_1 rfl (lv_at hl 1 rfl) ?_
  refine lv_icmp_lt (tgt := 14) hx hb dX5_in_2 (by decide) (fun c_1 => ?_) (fun c_1 => ?_)
  · have hF := iteT hF c_1
    refine lv_iconst (v := 0) hx hb dX5_in_14 (by decide) ?_
    exact g_iretR hx hb hr rfl hlocks hP hK hD hS dX5_in_15 hF
  · have hF := iteF hF c_1
    refine lv_iload_n hx hb dX5_in_5 rfl (lv_at hl 0 rfl) ?_
    refine lv_iload_n hx hb dX5_in_6 rfl (lv_at hl 2 rfl) ?_
    refine lv_icmp_gt (tgt := 14) hx hb dX5_in_7 (by decide) (fun c_2 => ?_) (fun c_2 => ?_)
    · have hF := iteT hF c_2
      refine lv_iconst (v := 0) hx hb dX5_in_14 (by decide) ?_
      exact g_iretR hx hb hr rfl hlocks hP hK hD hS dX5_in_15 hF
    · have hF := iteF hF c_2
      refine lv_iconst (v := 1) hx hb dX5_in_10 (by decide) ?_
      refine lv_goto (tgt := 15) hx hb dX5_in_11 (by decide) ?_
      exact g_iretR hx hb hr rfl hlocks hP hK hD hS dX5_in_15 hF
set_option maxHeartbeats 4000000 in
set_option maxRecDepth 100000 in
theorem tyc_M_isYard (l : Launch) (D : va_G) (ad : Nat → Nat) (cA : Nat → ClassId) (sz : Nat) (σ : tyS) (p0 : Int32) (r : Int32) (hF : tyf_M_isYard σ p0 = some r) : gMi l yX5_isYard wsX5_isYard ({ frames := 1, cells := 0, slots := 0, locals := 22 } : Room) D (wM ad cA) (tM cA) [.int p0] sz σ r σ := by
  refine Met.ofW (cc := cX5_isYard) (maxL := 1) (ret := (some .boolean)) (by decide) rfl ?_
  intro p e s m args below meth c s₁ B hml hv
  obtain ⟨rfl, hsz, hP, hK, hD0, hNN⟩ := hv
  have hx := B.exec
  have hb := B.bytes
  have hr := B.returns
  have hts := atoms_spec (ws := wsX5_isYard) B.pre
  have hown : s.vm.findClass RX5 = some m.cls := findClass_of_methodNamed B.named
  have hlocks := B.notSynchronized
  subst hsz
  have hD := hD0.self (sz := s.heap.size)
  generalize hAe : va_A (wM ad cA σ) s.heap.size = A at hD ⊢
  have hA : ∀ q : Nat, s.heap.size ≤ q → A q := fun q h => by rw [← hAe]; exact Or.inr h
  clear hAe hD0
  have hS : va_S A s.heap s.heap [] := va_S.rf
  have hl := lv_entry ([.int p0]) (n := 1) (Nat.le_of_ble_eq_true rfl)
  rw [lg_entry_eq]
  generalize (lg_sl ([.int p0]) ++ List.replicate (1 - (lg_sl ([.int p0])).length) Slot.unset).toArray = ls at hl ⊢
  have hl : lv_has ls 1 [(0, .int p0)] := hl
  have hS9 : CallFix p m c cX5_isYard 1 s _ wsX5_isYard RX5 := ⟨hx, hb, hml, hown, hts⟩
  unfold tyf_M_isYard at hF
  refine lv_iload_n hx hb dX5_isYard_0 rfl (lv_at hl 0 rfl) ?_
  refine lv_iconst (v := 0) hx hb dX5_isYard_1 (by decide) ?_
  refine lv_iconst (v := 2) hx hb dX5_isYard_2 (by decide) ?_
  obtain ⟨r1, er1, hF⟩ := bR_some hF
  refine gc_Si (As := [.int p0, .int 0, .int 2]) hS9 (tyc_M_in l D ad cA _ σ p0 0 2 r1 er1) (va_cwS 3 hts gX5_isYard_X5_in rfl rfl rfl hd_X5_in ⟨by decide, by decide⟩) hK hP hD hS hA hNN rfl hl.1 rfl (Nat.le_of_ble_eq_true rfl) dX5_isYard_3 (fun H locs hP hD hS => ?_)
  obtain ⟨hn_2, hF⟩ := chkb_some hF
  have hn_2 := of_decide_eq_true hn_2
  exact g_iretR hx hb hr (congrArg Value.int hn_2) hlocks hP hK hD hS dX5_isYard_6 hF
set_option maxHeartbeats 4000000 in
set_option maxRecDepth 100000 in
theorem tyc_M_isTrack (l : Launch) (D : va_G) (ad : Nat → Nat) (cA : Nat → ClassId) (sz : Nat) (σ : tyS) (p0 : Int32) (p1 : Int32) (r : Int32) (hF : tyf_M_isTrack σ p0 p1 = some r) : gMi l yX5_isTrack wsX5_isTrack ({ frames := 2, cells := 0, slots := 0, locals := 42 } : Room) D (wM ad cA) (tM cA) [.int p0, .int p1] sz σ r σ := by
  refine Met.ofW (cc := cX5_isTrack) (maxL := 2) (ret := (some .boolean)) (by decide) rfl ?_
  intro p e s m args below meth c s₁ B hml hv
  obtain ⟨rfl, hsz, hP, hK, hD0, hNN⟩ := hv
  have hx := B.exec
  have hb := B.bytes
  have hr := B.returns
  have hts := atoms_spec (ws := wsX5_isTrack) B.pre
  have hown : s.vm.findClass RX5 = some m.cls := findClass_of_methodNamed B.named
  have hlocks := B.notSynchronized
  subst hsz
  have hD := hD0.self (sz := s.heap.size)
  generalize hAe : va_A (wM ad cA σ) s.heap.size = A at hD ⊢
  have hA : ∀ q : Nat, s.heap.size ≤ q → A q := fun q h => by rw [← hAe]; exact Or.inr h
  clear hAe hD0
  have hS : va_S A s.heap s.heap [] := va_S.rf
  have hl := lv_entry ([.int p0, .int p1]) (n := 2) (Nat.le_of_ble_eq_true rfl)
  rw [lg_entry_eq]
  generalize (lg_sl ([.int p0, .int p1]) ++ List.replicate (2 - (lg_sl ([.int p0, .int p1])).length) Slot.unset).toArray = ls at hl ⊢
  have hl : lv_has ls 2 [(0, .int p0), (1, .int p1)] := hl
  have hS9 : CallFix p m c cX5_isTrack 2 s _ wsX5_isTrack RX5 := ⟨hx, hb, hml, hown, hts⟩
  unfold tyf_M_isTrack at hF
  refine lv_iload_n hx hb dX5_isTrack_0 rfl (lv_at hl 0 rfl) ?_
  obtain ⟨r1, er1, hF⟩ := bR_some hF
  refine gc_Si (As := [.int p0]) hS9 (tyc_M_isYard l D ad cA _ σ p0 r1 er1) (va_cwS 1 hts gX5_isTrack_X5_isYard rfl rfl rfl hd_X5_isYard ⟨by decide, by decide⟩) hK hP hD hS hA hNN rfl hl.1 rfl (Nat.le_of_ble_eq_true rfl) dX5_isTrack_1 (fun H locs hP hD hS => ?_)
  refine lv_if_eq (tgt := 20) hx hb dX5_isTrack_4 (by decide) (fun c_2 => ?_) (fun c_2 => ?_)
  · have hF := iteT hF c_2
    refine lv_iconst (v := 0) hx hb dX5_isTrack_20 (by decide) ?_
    exact g_iretR hx hb hr rfl hlocks hP hK hD hS dX5_isTrack_21 hF
  · have hF := iteF hF c_2
    refine lv_iload_n hx hb dX5_isTrack_7 rfl (lv_at hl 1 rfl) ?_
    refine lv_iconst (v := 0) hx hb dX5_isTrack_8 (by decide) ?_
    refine lv_iconst (v := 4) hx hb dX5_isTrack_9 (by decide) ?_
    obtain ⟨r3, er3, hF⟩ := bR_some hF
    refine gc_Si (As := [.int p1, .int 0, .int 4]) hS9 (tyc_M_in l D ad cA _ σ p1 0 4 r3 er3) (va_cwS 3 hts gX5_isTrack_X5_in rfl rfl rfl hd_X5_in ⟨by decide, by decide⟩) hK hP hD hS hA hNN rfl hl.1 rfl (Nat.le_of_ble_eq_true rfl) dX5_isTrack_10 (fun H locs hP hD hS => ?_)
    refine lv_if_eq (tgt := 20) hx hb dX5_isTrack_13 (by decide) (fun c_4 => ?_) (fun c_4 => ?_)
    · have hF := iteT hF c_4
      refine lv_iconst (v := 0) hx hb dX5_isTrack_20 (by decide) ?_
      exact g_iretR hx hb hr rfl hlocks hP hK hD hS dX5_isTrack_21 hF
    · have hF := iteF hF c_4
      refine lv_iconst (v := 1) hx hb dX5_isTrack_16 (by decide) ?_
      refine lv_goto (tgt := 21) hx hb dX5_isTrack_17 (by decide) ?_
      exact g_iretR hx hb hr rfl hlocks hP hK hD hS dX5_isTrack_21 hF
set_option maxHeartbeats 4000000 in
set_option maxRecDepth 100000 in
theorem tyc_M_puts (l : Launch) (D : va_G) (ad : Nat → Nat) (cA : Nat → ClassId) (sz : Nat) (σ : tyS) (p1 : Int32) (p2 : Int32) (p3 : Int32) (τ : tyS) (hF : tyf_M_puts σ p1 p2 p3 = some τ) : gMv l yX5_puts wsX5_puts ({ frames := 0, cells := 0, slots := 0, locals := 0 } : Room) D (wM ad cA) (tM cA) [.ref (ad 0), .int p1, .int p2, .int p3] sz σ τ := by
  refine Met.ofW (cc := cX5_puts) (maxL := 5) (ret := none) (by decide) rfl ?_
  intro p e s m args below meth c s₁ B hml hv
  obtain ⟨rfl, hsz, hP, hK, hD0, hNN⟩ := hv
  have hx := B.exec
  have hb := B.bytes
  have hr := B.returns
  have hts := atoms_spec (ws := wsX5_puts) B.pre
  have hown : s.vm.findClass RX5 = some m.cls := findClass_of_methodNamed B.named
  have hlocks := B.notSynchronized
  subst hsz
  have hD := hD0.self (sz := s.heap.size)
  generalize hAe : va_A (wM ad cA σ) s.heap.size = A at hD ⊢
  have hA : ∀ q : Nat, s.heap.size ≤ q → A q := fun q h => by rw [← hAe]; exact Or.inr h
  clear hAe hD0
  have hS : va_S A s.heap s.heap [] := va_S.rf
  have hl := lv_entry ([.ref (ad 0), .int p1, .int p2, .int p3]) (n := 5) (Nat.le_of_ble_eq_true rfl)
  rw [lg_entry_eq]
  generalize (lg_sl ([.ref (ad 0), .int p1, .int p2, .int p3]) ++ List.replicate (5 - (lg_sl ([.ref (ad 0), .int p1, .int p2, .int p3])).length) Slot.unset).toArray = ls at hl ⊢
  have hl : lv_has ls 5 [(0, .ref (ad 0)), (1, .int p1), (2, .int p2), (3, .int p3)] := hl
  have hw0 := hts (.fieldLink RX5 22 "TrunkYardsModel" "track" "[I") (List.mem_cons_of_mem _ (List.mem_of_getElem? (i := 0) rfl))
  have hiX5 : ∀ w ∈ wsX50, w ∈ wsX5_puts := fun w h => List.mem_cons_of_mem _ (List.mem_append_right _ h)
  have hw2 := hts (.fieldLink RX5 19 "TrunkYardsModel" "on" "[I") (List.mem_cons_of_mem _ (List.mem_of_getElem? (i := 1) rfl))
  have hw3 := hts (.fieldLink RX5 7 "TrunkYardsModel" "where" "[I") (List.mem_cons_of_mem _ (List.mem_of_getElem? (i := 2) rfl))
  unfold tyf_M_puts at hF
  refine lv_iconst (v := 5) hx hb dX5_puts_0 (by decide) ?_
  refine lv_iload_n hx hb dX5_puts_1 rfl (lv_at hl 1 rfl) ?_
  refine lv_imul hx hb dX5_puts_2 ?_
  refine lv_iload_n hx hb dX5_puts_3 rfl (lv_at hl 2 rfl) ?_
  refine lv_iadd hx hb dX5_puts_4 ?_
  refine lv_istore (lv' := [(4, .int ((5 * p1) + p2)), (0, .ref (ad 0)), (1, .int p1), (2, .int p2), (3, .int p3)]) hx hb dX5_puts_5 hl (by decide) rfl (fun ls hl => ?_)
  refine lv_aload_n hx hb dX5_puts_7 rfl (lv_at hl 1 rfl) ?_
  refine va_get (D := D) (ci := 5) (v := .ref (ad 5)) (C := RX5) (T := TX5) (N := 30) hx hb hts hiX5 hown hK hP 0 (wM_0 ad cA σ) rfl 7 (by decide) hw0 (fun _ h9 => h9) rfl dX5_puts_8 ?_
  refine lv_bipush (v := 6) hx hb dX5_puts_11 (by decide) ?_
  refine lv_iload hx hb dX5_puts_13 (lv_at hl 0 rfl) ?_
  refine lv_imul hx hb dX5_puts_15 ?_
  refine lv_aload_n hx hb dX5_puts_16 rfl (lv_at hl 1 rfl) ?_
  refine va_get (D := D) (ci := 5) (v := .ref (ad 4)) (C := RX5) (T := TX5) (N := 30) hx hb hts hiX5 hown hK hP 0 (wM_0 ad cA σ) rfl 6 (by decide) hw2 (fun _ h9 => h9) rfl dX5_puts_17 ?_
  refine lv_iload hx hb dX5_puts_20 (lv_at hl 0 rfl) ?_
  obtain ⟨hb_1, hF⟩ := chk_some hF
  refine va_iald hx hb hK hP 4 3 (wM_4 ad cA σ) (tM_4 cA) hb_1 dX5_puts_22 ?_
  refine lv_iadd hx hb dX5_puts_23 ?_
  refine lv_iload_n hx hb dX5_puts_24 rfl (lv_at hl 4 rfl) ?_
  obtain ⟨hb_2, hF⟩ := chk_some hF
  obtain ⟨σ3, e3, hF⟩ := stp_some hF
  refine gw_iast hx hb hK hP hD hS (wM_5 ad cA σ) (tM_5 cA) (wMs_5 ad cA σ) hb_2 dX5_puts_25 e3 (fun H locs hP hD hS => ?_)
  refine lv_aload_n hx hb dX5_puts_26 rfl (lv_at hl 1 rfl) ?_
  refine va_get (D := D) (ci := 5) (v := .ref (ad 4)) (C := RX5) (T := TX5) (N := 30) hx hb hts hiX5 hown hK hP 0 (wM_0 ad cA σ3) rfl 6 (by decide) hw2 (fun _ h9 => h9) rfl dX5_puts_27 ?_
  refine lv_iload hx hb dX5_puts_30 (lv_at hl 0 rfl) ?_
  refine lv_dup2_11 hx hb dX5_puts_32 rfl rfl ?_
  obtain ⟨hb_4, hF⟩ := chk_some hF
  refine va_iald hx hb hK hP 4 3 (wM_4 ad cA σ3) (tM_4 cA) hb_4 dX5_puts_33 ?_
  refine lv_iconst (v := 1) hx hb dX5_puts_34 (by decide) ?_
  refine lv_iadd hx hb dX5_puts_35 ?_
  obtain ⟨hb_5, hF⟩ := chk_some hF
  obtain ⟨σ6, e6, hF⟩ := stp_some hF
  refine gw_iast hx hb hK hP hD hS (wM_4 ad cA σ3) (tM_4 cA) (wMs_4 ad cA σ3) hb_5 dX5_puts_36 e6 (fun H locs hP hD hS => ?_)
  refine lv_aload_n hx hb dX5_puts_37 rfl (lv_at hl 1 rfl) ?_
  refine va_get (D := D) (ci := 5) (v := .ref (ad 1)) (C := RX5) (T := TX5) (N := 30) hx hb hts hiX5 hown hK hP 0 (wM_0 ad cA σ6) rfl 3 (by decide) hw3 (fun _ h9 => h9) rfl dX5_puts_38 ?_
  refine lv_iload_n hx hb dX5_puts_41 rfl (lv_at hl 4 rfl) ?_
  refine lv_bipush (v := 10) hx hb dX5_puts_42 (by decide) ?_
  refine lv_iload_n hx hb dX5_puts_44 rfl (lv_at hl 2 rfl) ?_
  refine lv_imul hx hb dX5_puts_45 ?_
  refine lv_iload_n hx hb dX5_puts_46 rfl (lv_at hl 3 rfl) ?_
  refine lv_iadd hx hb dX5_puts_47 ?_
  obtain ⟨hb_7, hF⟩ := chk_some hF
  obtain ⟨σ8, e8, hF⟩ := stp_some hF
  refine gw_iast hx hb hK hP hD hS (wM_1 ad cA σ6) (tM_1 cA) (wMs_1 ad cA σ6) hb_7 dX5_puts_48 e8 (fun H locs hP hD hS => ?_)
  exact g_vretN hx hb hr hlocks hP hK hD hS dX5_puts_49 hF
set_option maxHeartbeats 4000000 in
set_option maxRecDepth 100000 in
theorem tyc_M_wagon (l : Launch) (D : va_G) (ad : Nat → Nat) (cA : Nat → ClassId) (sz : Nat) (σ : tyS) (p1 : Int32) (p2 : Int32) (r : Int32) (τ : tyS) (hF : tyf_M_wagon σ p1 p2 = some (r, τ)) : gMi l yX5_wagon wsX5_wagon ({ frames := 3, cells := 0, slots := 0, locals := 63 } : Room) D (wM ad cA) (tM cA) [.ref (ad 0), .int p1, .int p2] sz σ r τ := by
  refine Met.ofW (cc := cX5_wagon) (maxL := 3) (ret := (some .int)) (by decide) rfl ?_
  intro p e s m args below meth c s₁ B hml hv
  obtain ⟨rfl, hsz, hP, hK, hD0, hNN⟩ := hv
  have hx := B.exec
  have hb := B.bytes
  have hr := B.returns
  have hts := atoms_spec (ws := wsX5_wagon) B.pre
  have hown : s.vm.findClass RX5 = some m.cls := findClass_of_methodNamed B.named
  have hlocks := B.notSynchronized
  subst hsz
  have hD := hD0.self (sz := s.heap.size)
  generalize hAe : va_A (wM ad cA σ) s.heap.size = A at hD ⊢
  have hA : ∀ q : Nat, s.heap.size ≤ q → A q := fun q h => by rw [← hAe]; exact Or.inr h
  clear hAe hD0
  have hS : va_S A s.heap s.heap [] := va_S.rf
  have hl := lv_entry ([.ref (ad 0), .int p1, .int p2]) (n := 3) (Nat.le_of_ble_eq_true rfl)
  rw [lg_entry_eq]
  generalize (lg_sl ([.ref (ad 0), .int p1, .int p2]) ++ List.replicate (3 - (lg_sl ([.ref (ad 0), .int p1, .int p2])).length) Slot.unset).toArray = ls at hl ⊢
  have hl : lv_has ls 3 [(0, .ref (ad 0)), (1, .int p1), (2, .int p2)] := hl
  have hS9 : CallFix p m c cX5_wagon 3 s _ wsX5_wagon RX5 := ⟨hx, hb, hml, hown, hts⟩
  have hw0 := hts (.fieldLink RX5 92 "TrunkYardsModel" "wagons" "I") (List.mem_cons_of_mem _ (List.mem_of_getElem? (i := 0) rfl))
  have hiX5 : ∀ w ∈ wsX50, w ∈ wsX5_wagon := fun w h => List.mem_cons_of_mem _ (List.mem_append_right _ h)
  have hw2 := hts (.fieldLink RX5 80 "TrunkYardsModel" "thrown" "I") (List.mem_cons_of_mem _ (List.mem_of_getElem? (i := 2) rfl))
  have hw3 := hts (.fieldLink RX5 19 "TrunkYardsModel" "on" "[I") (List.mem_cons_of_mem _ (List.mem_of_getElem? (i := 1) rfl))
  have hw4 := hts (.fieldLink RX5 13 "TrunkYardsModel" "carried" "[I") (List.mem_cons_of_mem _ (List.mem_of_getElem? (i := 3) rfl))
  have hw5 := hts (.fieldLink RX5 16 "TrunkYardsModel" "booking" "[I") (List.mem_cons_of_mem _ (List.mem_of_getElem? (i := 4) rfl))
  unfold tyf_M_wagon at hF
  refine lv_aload_n hx hb dX5_wagon_0 rfl (lv_at hl 0 rfl) ?_
  refine lv_iload_n hx hb dX5_wagon_1 rfl (lv_at hl 1 rfl) ?_
  refine lv_iload_n hx hb dX5_wagon_2 rfl (lv_at hl 2 rfl) ?_
  obtain ⟨r1, er1, hF⟩ := bR_some hF
  refine gc_Si (As := [.int p1, .int p2]) hS9 (tyc_M_isTrack l D ad cA _ σ p1 p2 r1 er1) (va_cwS 2 hts gX5_wagon_X5_isTrack rfl rfl rfl hd_X5_isTrack ⟨by decide, by decide⟩) hK hP hD hS hA hNN rfl hl.1 rfl (Nat.le_of_ble_eq_true rfl) dX5_wagon_3 (fun H locs hP hD hS => ?_)
  refine lv_if_ne (tgt := 13) hx hb dX5_wagon_6 (by decide) (fun c_2 => ?_) (fun c_2 => ?_)
  · have hF := iteF hF c_2
    refine lv_aload_n hx hb dX5_wagon_13 rfl (lv_at hl 0 rfl) ?_
    refine va_get (D := D) (ci := 5) (v := .int (σ.2 2)) (C := RX5) (T := TX5) (N := 30) hx hb hts hiX5 hown hK hP 0 (wM_0 ad cA σ) rfl 2 (by decide) hw0 (fun _ h9 => h9) rfl dX5_wagon_14 ?_
    refine lv_bipush (v := 30) hx hb dX5_wagon_17 (by decide) ?_
    refine lv_icmp_eq (tgt := 37) hx hb dX5_wagon_19 (by decide) (fun c_3 => ?_) (fun c_3 => ?_)
    · have hF := iteT hF c_3
      refine lv_iconst (v := 2) hx hb dX5_wagon_37 (by decide) ?_
      refine lv_goto (tgt := 42) hx hb dX5_wagon_38 (by decide) ?_
      obtain ⟨σ4, e4, hF⟩ := stp_some hF
      refine gw_put hx hb hts hiX5 tyX5 tyX5_ok nmX5 hown hK hP hD hS 0 (wM_0 ad cA σ) rfl 0 (by decide) hw2 (fun _ h9 => h9) rfl (by decide +kernel) (show 0 < 30 from by decide) (wMv_0 ad cA σ _) dX5_wagon_42 e4 (fun H locs hP hD hS => ?_)
      refine lv_aload_n hx hb dX5_wagon_45 rfl (lv_at hl 0 rfl) ?_
      refine va_get (D := D) (ci := 5) (v := .int (σ4.2 0)) (C := RX5) (T := TX5) (N := 30) hx hb hts hiX5 hown hK hP 0 (wM_0 ad cA σ4) rfl 0 (by decide) hw2 (fun _ h9 => h9) rfl dX5_wagon_46 ?_
      refine lv_as (y := 2) (by rw [e4]; rfl) ?_
      refine lv_if_le (tgt := 54) hx hb dX5_wagon_49 (by decide) (fun h9 => absurd h9 (by decide)) (fun _ => ?_)
      refine lv_iconst (v := 0) hx hb dX5_wagon_52 (by decide) ?_
      exact g_iretN hx hb hr rfl hlocks hP hK hD hS dX5_wagon_53 hF
    · have hF := iteF hF c_3
      refine lv_aload_n hx hb dX5_wagon_22 rfl (lv_at hl 0 rfl) ?_
      refine va_get (D := D) (ci := 5) (v := .ref (ad 4)) (C := RX5) (T := TX5) (N := 30) hx hb hts hiX5 hown hK hP 0 (wM_0 ad cA σ) rfl 6 (by decide) hw3 (fun _ h9 => h9) rfl dX5_wagon_23 ?_
      refine lv_iconst (v := 5) hx hb dX5_wagon_26 (by decide) ?_
      refine lv_iload_n hx hb dX5_wagon_27 rfl (lv_at hl 1 rfl) ?_
      refine lv_imul hx hb dX5_wagon_28 ?_
      refine lv_iload_n hx hb dX5_wagon_29 rfl (lv_at hl 2 rfl) ?_
      refine lv_iadd hx hb dX5_wagon_30 ?_
      obtain ⟨hb_5, hF⟩ := chk_some hF
      refine va_iald hx hb hK hP 4 3 (wM_4 ad cA σ) (tM_4 cA) hb_5 dX5_wagon_31 ?_
      refine lv_bipush (v := 6) hx hb dX5_wagon_32 (by decide) ?_
      refine lv_icmp_ne (tgt := 41) hx hb dX5_wagon_34 (by decide) (fun c_6 => ?_) (fun c_6 => ?_)
      · have hF := iteF hF c_6
        refine lv_iconst (v := 0) hx hb dX5_wagon_41 (by decide) ?_
        obtain ⟨σ7, e7, hF⟩ := stp_some hF
        refine gw_put hx hb hts hiX5 tyX5 tyX5_ok nmX5 hown hK hP hD hS 0 (wM_0 ad cA σ) rfl 0 (by decide) hw2 (fun _ h9 => h9) rfl (by decide +kernel) (show 0 < 30 from by decide) (wMv_0 ad cA σ _) dX5_wagon_42 e7 (fun H locs hP hD hS => ?_)
        refine lv_aload_n hx hb dX5_wagon_45 rfl (lv_at hl 0 rfl) ?_
        refine va_get (D := D) (ci := 5) (v := .int (σ7.2 0)) (C := RX5) (T := TX5) (N := 30) hx hb hts hiX5 hown hK hP 0 (wM_0 ad cA σ7) rfl 0 (by decide) hw2 (fun _ h9 => h9) rfl dX5_wagon_46 ?_
        refine lv_as (y := 0) (by rw [e7]; rfl) ?_
        refine lv_if_le (tgt := 54) hx hb dX5_wagon_49 (by decide) (fun _ => ?_) (fun h9 => absurd h9 (by decide))
        refine lv_aload_n hx hb dX5_wagon_54 rfl (lv_at hl 0 rfl) ?_
        refine va_get (D := D) (ci := 5) (v := .ref (ad 2)) (C := RX5) (T := TX5) (N := 30) hx hb hts hiX5 hown hK hP 0 (wM_0 ad cA σ7) rfl 4 (by decide) hw4 (fun _ h9 => h9) rfl dX5_wagon_55 ?_
        refine lv_aload_n hx hb dX5_wagon_58 rfl (lv_at hl 0 rfl) ?_
        refine va_get (D := D) (ci := 5) (v := .int (σ7.2 2)) (C := RX5) (T := TX5) (N := 30) hx hb hts hiX5 hown hK hP 0 (wM_0 ad cA σ7) rfl 2 (by decide) hw0 (fun _ h9 => h9) rfl dX5_wagon_59 ?_
        refine lv_iconst (v := (-1)) hx hb dX5_wagon_62 (by decide) ?_
        obtain ⟨hb_8, hF⟩ := chk_some hF
        obtain ⟨σ9, e9, hF⟩ := stp_some hF
        refine gw_iast hx hb hK hP hD hS (wM_2 ad cA σ7) (tM_2 cA) (wMs_2 ad cA σ7) hb_8 dX5_wagon_63 e9 (fun H locs hP hD hS => ?_)
        refine lv_aload_n hx hb dX5_wagon_64 rfl (lv_at hl 0 rfl) ?_
        refine va_get (D := D) (ci := 5) (v := .ref (ad 3)) (C := RX5) (T := TX5) (N := 30) hx hb hts hiX5 hown hK hP 0 (wM_0 ad cA σ9) rfl 5 (by decide) hw5 (fun _ h9 => h9) rfl dX5_wagon_65 ?_
        refine lv_aload_n hx hb dX5_wagon_68 rfl (lv_at hl 0 rfl) ?_
        refine va_get (D := D) (ci := 5) (v := .int (σ9.2 2)) (C := RX5) (T := TX5) (N := 30) hx hb hts hiX5 hown hK hP 0 (wM_0 ad cA σ9) rfl 2 (by decide) hw0 (fun _ h9 => h9) rfl dX5_wagon_69 ?_
        refine lv_iconst (v := (-1)) hx hb dX5_wagon_72 (by decide) ?_
        obtain ⟨hb_10, hF⟩ := chk_some hF
        obtain ⟨σ11, e11, hF⟩ := stp_some hF
        refine gw_iast hx hb hK hP hD hS (wM_3 ad cA σ9) (tM_3 cA) (wMs_3 ad cA σ9) hb_10 dX5_wagon_73 e11 (fun H locs hP hD hS => ?_)
        refine lv_aload_n hx hb dX5_wagon_74 rfl (lv_at hl 0 rfl) ?_
        refine lv_iload_n hx hb dX5_wagon_75 rfl (lv_at hl 1 rfl) ?_
        refine lv_iload_n hx hb dX5_wagon_76 rfl (lv_at hl 2 rfl) ?_
        refine lv_aload_n hx hb dX5_wagon_77 rfl (lv_at hl 0 rfl) ?_
        refine va_get (D := D) (ci := 5) (v := .int (σ11.2 2)) (C := RX5) (T := TX5) (N := 30) hx hb hts hiX5 hown hK hP 0 (wM_0 ad cA σ11) rfl 2 (by decide) hw0 (fun _ h9 => h9) rfl dX5_wagon_78 ?_
        obtain ⟨σ12, e12, hF⟩ := bR_some hF
        refine gc_Vv (As := [.int p1, .int p2, .int (σ11.2 2)]) hS9 (tyc_M_puts l D ad cA _ σ11 p1 p2 (σ11.2 2) σ12 e12) (cwV 3 hts gX5_wagon_X5_puts rfl rfl rfl hd_X5_puts ⟨by decide, by decide⟩) hK hP hD hS hA hNN (ci := 5) (q0 := 0) (N := 30) rfl (wM_0 ad cA σ11) rfl hl.1 rfl (Nat.le_of_ble_eq_true rfl) dX5_wagon_81 (fun H locs hP hD hS => ?_)
        refine lv_aload_n hx hb dX5_wagon_84 rfl (lv_at hl 0 rfl) ?_
        refine lv_dup hx hb dX5_wagon_85 rfl ?_
        refine va_get (D := D) (ci := 5) (v := .int (σ12.2 2)) (C := RX5) (T := TX5) (N := 30) hx hb hts hiX5 hown hK hP 0 (wM_0 ad cA σ12) rfl 2 (by decide) hw0 (fun _ h9 => h9) rfl dX5_wagon_86 ?_
        refine lv_iconst (v := 1) hx hb dX5_wagon_89 (by decide) ?_
        refine lv_iadd hx hb dX5_wagon_90 ?_
        obtain ⟨σ13, e13, hF⟩ := stp_some hF
        refine gw_put hx hb hts hiX5 tyX5 tyX5_ok nmX5 hown hK hP hD hS 0 (wM_0 ad cA σ12) rfl 2 (by decide) hw0 (fun _ h9 => h9) rfl (by decide +kernel) (show 2 < 30 from by decide) (wMv_2 ad cA σ12 _) dX5_wagon_91 e13 (fun H locs hP hD hS => ?_)
        refine lv_aload_n hx hb dX5_wagon_94 rfl (lv_at hl 0 rfl) ?_
        refine va_get (D := D) (ci := 5) (v := .int (σ13.2 2)) (C := RX5) (T := TX5) (N := 30) hx hb hts hiX5 hown hK hP 0 (wM_0 ad cA σ13) rfl 2 (by decide) hw0 (fun _ h9 => h9) rfl dX5_wagon_95 ?_
        refine lv_iconst (v := 1) hx hb dX5_wagon_98 (by decide) ?_
        refine lv_isub hx hb dX5_wagon_99 ?_
        exact g_iretN hx hb hr rfl hlocks hP hK hD hS dX5_wagon_100 hF
      · have hF := iteT hF c_6
        refine lv_iconst (v := 2) hx hb dX5_wagon_37 (by decide) ?_
        refine lv_goto (tgt := 42) hx hb dX5_wagon_38 (by decide) ?_
        obtain ⟨σ14, e14, hF⟩ := stp_some hF
        refine gw_put hx hb hts hiX5 tyX5 tyX5_ok nmX5 hown hK hP hD hS 0 (wM_0 ad cA σ) rfl 0 (by decide) hw2 (fun _ h9 => h9) rfl (by decide +kernel) (show 0 < 30 from by decide) (wMv_0 ad cA σ _) dX5_wagon_42 e14 (fun H locs hP hD hS => ?_)
        refine lv_aload_n hx hb dX5_wagon_45 rfl (lv_at hl 0 rfl) ?_
        refine va_get (D := D) (ci := 5) (v := .int (σ14.2 0)) (C := RX5) (T := TX5) (N := 30) hx hb hts hiX5 hown hK hP 0 (wM_0 ad cA σ14) rfl 0 (by decide) hw2 (fun _ h9 => h9) rfl dX5_wagon_46 ?_
        refine lv_as (y := 2) (by rw [e14]; rfl) ?_
        refine lv_if_le (tgt := 54) hx hb dX5_wagon_49 (by decide) (fun h9 => absurd h9 (by decide)) (fun _ => ?_)
        refine lv_iconst (v := 0) hx hb dX5_wagon_52 (by decide) ?_
        exact g_iretN hx hb hr rfl hlocks hP hK hD hS dX5_wagon_53 hF
  · have hF := iteT hF c_2
    refine lv_iconst (v := 1) hx hb dX5_wagon_9 (by decide) ?_
    refine lv_goto (tgt := 42) hx hb dX5_wagon_10 (by decide) ?_
    obtain ⟨σ15, e15, hF⟩ := stp_some hF
    refine gw_put hx hb hts hiX5 tyX5 tyX5_ok nmX5 hown hK hP hD hS 0 (wM_0 ad cA σ) rfl 0 (by decide) hw2 (fun _ h9 => h9) rfl (by decide +kernel) (show 0 < 30 from by decide) (wMv_0 ad cA σ _) dX5_wagon_42 e15 (fun H locs hP hD hS => ?_)
    refine lv_aload_n hx hb dX5_wagon_45 rfl (lv_at hl 0 rfl) ?_
    refine va_get (D := D) (ci := 5) (v := .int (σ15.2 0)) (C := RX5) (T := TX5) (N := 30) hx hb hts hiX5 hown hK hP 0 (wM_0 ad cA σ15) rfl 0 (by decide) hw2 (fun _ h9 => h9) rfl dX5_wagon_46 ?_
    refine lv_as (y := 1) (by rw [e15]; rfl) ?_
    refine lv_if_le (tgt := 54) hx hb dX5_wagon_49 (by decide) (fun h9 => absurd h9 (by decide)) (fun _ => ?_)
    refine lv_iconst (v := 0) hx hb dX5_wagon_52 (by decide) ?_
    exact g_iretN hx hb hr rfl hlocks hP hK hD hS dX5_wagon_53 hF
set_option maxHeartbeats 4000000 in
set_option maxRecDepth 100000 in
theorem tyc_M_shunt (l : Launch) (D : va_G) (ad : Nat → Nat) (cA : Nat → ClassId) (sz : Nat) (σ : tyS) (p1 : Int32) (p2 : Int32) (p3 : Int32) (p4 : Int32) (r : Int32) (τ : tyS) (hF : tyf_M_shunt σ p1 p2 p3 p4 = some (r, τ)) : gMi l yX5_shunt wsX5_shunt ({ frames := 3, cells := 0, slots := 0, locals := 63 } : Room) D (wM ad cA) (tM cA) [.ref (ad 0), .int p1, .int p2, .int p3, .int p4] sz σ r τ := by
  refine Met.ofW (cc := cX5_shunt) (maxL := 8) (ret := (some .int)) (by decide) rfl ?_
  intro p e s m args below meth c s₁ B hml hv
  obtain ⟨rfl, hsz, hP, hK, hD0, hNN⟩ := hv
  have hx := B.exec
  have hb := B.bytes
  have hr := B.returns
  have hts := atoms_spec (ws := wsX5_shunt) B.pre
  have hown : s.vm.findClass RX5 = some m.cls := findClass_of_methodNamed B.named
  have hlocks := B.notSynchronized
  subst hsz
  have hD := hD0.self (sz := s.heap.size)
  generalize hAe : va_A (wM ad cA σ) s.heap.size = A at hD ⊢
  have hA : ∀ q : Nat, s.heap.size ≤ q → A q := fun q h => by rw [← hAe]; exact Or.inr h
  clear hAe hD0
  have hS : va_S A s.heap s.heap [] := va_S.rf
  have hl := lv_entry ([.ref (ad 0), .int p1, .int p2, .int p3, .int p4]) (n := 8) (Nat.le_of_ble_eq_true rfl)
  rw [lg_entry_eq]
  generalize (lg_sl ([.ref (ad 0), .int p1, .int p2, .int p3, .int p4]) ++ List.replicate (8 - (lg_sl ([.ref (ad 0), .int p1, .int p2, .int p3, .int p4])).length) Slot.unset).toArray = ls at hl ⊢
  have hl : lv_has ls 8 [(0, .ref (ad 0)), (1, .int p1), (2, .int p2), (3, .int p3), (4, .int p4)] := hl
  have hS9 : CallFix p m c cX5_shunt 8 s _ wsX5_shunt RX5 := ⟨hx, hb, hml, hown, hts⟩
  have hw0 := hts (.fieldLink RX5 80 "TrunkYardsModel" "thrown" "I") (List.mem_cons_of_mem _ (List.mem_of_getElem? (i := 1) rfl))
  have hiX5 : ∀ w ∈ wsX50, w ∈ wsX5_shunt := fun w h => List.mem_cons_of_mem _ (List.mem_append_right _ h)
  have hw2 := hts (.fieldLink RX5 19 "TrunkYardsModel" "on" "[I") (List.mem_cons_of_mem _ (List.mem_of_getElem? (i := 0) rfl))
  have hw3 := hts (.fieldLink RX5 22 "TrunkYardsModel" "track" "[I") (List.mem_cons_of_mem _ (List.mem_of_getElem? (i := 2) rfl))
  unfold tyf_M_shunt at hF
  refine lv_iload_n hx hb dX5_shunt_0 rfl (lv_at hl 1 rfl) ?_
  refine lv_iload_n hx hb dX5_shunt_1 rfl (lv_at hl 2 rfl) ?_
  obtain ⟨r1, er1, hF⟩ := bR_some hF
  refine gc_Si (As := [.int p1, .int p2]) hS9 (tyc_M_isTrack l D ad cA _ σ p1 p2 r1 er1) (va_cwS 2 hts gX5_shunt_X5_isTrack rfl rfl rfl hd_X5_isTrack ⟨by decide, by decide⟩) hK hP hD hS hA hNN rfl hl.1 rfl (Nat.le_of_ble_eq_true rfl) dX5_shunt_2 (fun H locs hP hD hS => ?_)
  refine lv_if_eq (tgt := 36) hx hb dX5_shunt_5 (by decide) (fun c_2 => ?_) (fun c_2 => ?_)
  · have hF := iteT hF c_2
    refine lv_iconst (v := 0) hx hb dX5_shunt_36 (by decide) ?_
    refine lv_istore (lv' := [(5, .int 0), (0, .ref (ad 0)), (1, .int p1), (2, .int p2), (3, .int p3), (4, .int p4)]) hx hb dX5_shunt_37 hl (by decide) rfl (fun ls hl => ?_)
    refine lv_aload_n hx hb dX5_shunt_39 rfl (lv_at hl 1 rfl) ?_
    refine lv_iload hx hb dX5_shunt_40 (lv_at hl 0 rfl) ?_
    refine lv_if_ne (tgt := 49) hx hb dX5_shunt_42 (by decide) (fun h9 => absurd h9 (by decide)) (fun _ => ?_)
    refine lv_iconst (v := 1) hx hb dX5_shunt_45 (by decide) ?_
    refine lv_goto (tgt := 87) hx hb dX5_shunt_46 (by decide) ?_
    obtain ⟨σ3, e3, hF⟩ := stp_some hF
    refine gw_put hx hb hts hiX5 tyX5 tyX5_ok nmX5 hown hK hP hD hS 0 (wM_0 ad cA σ) rfl 0 (by decide) hw0 (fun _ h9 => h9) rfl (by decide +kernel) (show 0 < 30 from by decide) (wMv_0 ad cA σ _) dX5_shunt_87 e3 (fun H locs hP hD hS => ?_)
    refine lv_aload_n hx hb dX5_shunt_90 rfl (lv_at hl 1 rfl) ?_
    refine va_get (D := D) (ci := 5) (v := .int (σ3.2 0)) (C := RX5) (T := TX5) (N := 30) hx hb hts hiX5 hown hK hP 0 (wM_0 ad cA σ3) rfl 0 (by decide) hw0 (fun _ h9 => h9) rfl dX5_shunt_91 ?_
    refine lv_as (y := 1) (by rw [e3]; rfl) ?_
    refine lv_if_le (tgt := 99) hx hb dX5_shunt_94 (by decide) (fun h9 => absurd h9 (by decide)) (fun _ => ?_)
    refine lv_iconst (v := 0) hx hb dX5_shunt_97 (by decide) ?_
    exact g_iretN hx hb hr rfl hlocks hP hK hD hS dX5_shunt_98 hF
  · have hF := iteF hF c_2
    refine lv_iload_n hx hb dX5_shunt_8 rfl (lv_at hl 1 rfl) ?_
    refine lv_iload_n hx hb dX5_shunt_9 rfl (lv_at hl 3 rfl) ?_
    obtain ⟨r4, er4, hF⟩ := bR_some hF
    refine gc_Si (As := [.int p1, .int p3]) hS9 (tyc_M_isTrack l D ad cA _ σ p1 p3 r4 er4) (va_cwS 2 hts gX5_shunt_X5_isTrack rfl rfl rfl hd_X5_isTrack ⟨by decide, by decide⟩) hK hP hD hS hA hNN rfl hl.1 rfl (Nat.le_of_ble_eq_true rfl) dX5_shunt_10 (fun H locs hP hD hS => ?_)
    refine lv_if_eq (tgt := 36) hx hb dX5_shunt_13 (by decide) (fun c_5 => ?_) (fun c_5 => ?_)
    · have hF := iteT hF c_5
      refine lv_iconst (v := 0) hx hb dX5_shunt_36 (by decide) ?_
      refine lv_istore (lv' := [(5, .int 0), (0, .ref (ad 0)), (1, .int p1), (2, .int p2), (3, .int p3), (4, .int p4)]) hx hb dX5_shunt_37 hl (by decide) rfl (fun ls hl => ?_)
      refine lv_aload_n hx hb dX5_shunt_39 rfl (lv_at hl 1 rfl) ?_
      refine lv_iload hx hb dX5_shunt_40 (lv_at hl 0 rfl) ?_
      refine lv_if_ne (tgt := 49) hx hb dX5_shunt_42 (by decide) (fun h9 => absurd h9 (by decide)) (fun _ => ?_)
      refine lv_iconst (v := 1) hx hb dX5_shunt_45 (by decide) ?_
      refine lv_goto (tgt := 87) hx hb dX5_shunt_46 (by decide) ?_
      obtain ⟨σ6, e6, hF⟩ := stp_some hF
      refine gw_put hx hb hts hiX5 tyX5 tyX5_ok nmX5 hown hK hP hD hS 0 (wM_0 ad cA σ) rfl 0 (by decide) hw0 (fun _ h9 => h9) rfl (by decide +kernel) (show 0 < 30 from by decide) (wMv_0 ad cA σ _) dX5_shunt_87 e6 (fun H locs hP hD hS => ?_)
      refine lv_aload_n hx hb dX5_shunt_90 rfl (lv_at hl 1 rfl) ?_
      refine va_get (D := D) (ci := 5) (v := .int (σ6.2 0)) (C := RX5) (T := TX5) (N := 30) hx hb hts hiX5 hown hK hP 0 (wM_0 ad cA σ6) rfl 0 (by decide) hw0 (fun _ h9 => h9) rfl dX5_shunt_91 ?_
      refine lv_as (y := 1) (by rw [e6]; rfl) ?_
      refine lv_if_le (tgt := 99) hx hb dX5_shunt_94 (by decide) (fun h9 => absurd h9 (by decide)) (fun _ => ?_)
      refine lv_iconst (v := 0) hx hb dX5_shunt_97 (by decide) ?_
      exact g_iretN hx hb hr rfl hlocks hP hK hD hS dX5_shunt_98 hF
    · have hF := iteF hF c_5
      refine lv_iload_n hx hb dX5_shunt_16 rfl (lv_at hl 2 rfl) ?_
      refine lv_iload_n hx hb dX5_shunt_17 rfl (lv_at hl 3 rfl) ?_
      refine lv_icmp_eq (tgt := 36) hx hb dX5_shunt_18 (by decide) (fun c_7 => ?_) (fun c_7 => ?_)
      · have hF := iteT hF c_7
        refine lv_iconst (v := 0) hx hb dX5_shunt_36 (by decide) ?_
        refine lv_istore (lv' := [(5, .int 0), (0, .ref (ad 0)), (1, .int p1), (2, .int p2), (3, .int p3), (4, .int p4)]) hx hb dX5_shunt_37 hl (by decide) rfl (fun ls hl => ?_)
        refine lv_aload_n hx hb dX5_shunt_39 rfl (lv_at hl 1 rfl) ?_
        refine lv_iload hx hb dX5_shunt_40 (lv_at hl 0 rfl) ?_
        refine lv_if_ne (tgt := 49) hx hb dX5_shunt_42 (by decide) (fun h9 => absurd h9 (by decide)) (fun _ => ?_)
        refine lv_iconst (v := 1) hx hb dX5_shunt_45 (by decide) ?_
        refine lv_goto (tgt := 87) hx hb dX5_shunt_46 (by decide) ?_
        obtain ⟨σ8, e8, hF⟩ := stp_some hF
        refine gw_put hx hb hts hiX5 tyX5 tyX5_ok nmX5 hown hK hP hD hS 0 (wM_0 ad cA σ) rfl 0 (by decide) hw0 (fun _ h9 => h9) rfl (by decide +kernel) (show 0 < 30 from by decide) (wMv_0 ad cA σ _) dX5_shunt_87 e8 (fun H locs hP hD hS => ?_)
        refine lv_aload_n hx hb dX5_shunt_90 rfl (lv_at hl 1 rfl) ?_
        refine va_get (D := D) (ci := 5) (v := .int (σ8.2 0)) (C := RX5) (T := TX5) (N := 30) hx hb hts hiX5 hown hK hP 0 (wM_0 ad cA σ8) rfl 0 (by decide) hw0 (fun _ h9 => h9) rfl dX5_shunt_91 ?_
        refine lv_as (y := 1) (by rw [e8]; rfl) ?_
        refine lv_if_le (tgt := 99) hx hb dX5_shunt_94 (by decide) (fun h9 => absurd h9 (by decide)) (fun _ => ?_)
        refine lv_iconst (v := 0) hx hb dX5_shunt_97 (by decide) ?_
        exact g_iretN hx hb hr rfl hlocks hP hK hD hS dX5_shunt_98 hF
      · have hF := iteF hF c_7
        refine lv_iload hx hb dX5_shunt_21 (lv_at hl 4 rfl) ?_
        refine lv_iconst (v := 1) hx hb dX5_shunt_23 (by decide) ?_
        refine lv_bipush (v := 6) hx hb dX5_shunt_24 (by decide) ?_
        obtain ⟨r9, er9, hF⟩ := bR_some hF
        refine gc_Si (As := [.int p4, .int 1, .int 6]) hS9 (tyc_M_in l D ad cA _ σ p4 1 6 r9 er9) (va_cwS 3 hts gX5_shunt_X5_in rfl rfl rfl hd_X5_in ⟨by decide, by decide⟩) hK hP hD hS hA hNN rfl hl.1 rfl (Nat.le_of_ble_eq_true rfl) dX5_shunt_26 (fun H locs hP hD hS => ?_)
        refine lv_if_eq (tgt := 36) hx hb dX5_shunt_29 (by decide) (fun c_10 => ?_) (fun c_10 => ?_)
        · have hF := iteT hF c_10
          refine lv_iconst (v := 0) hx hb dX5_shunt_36 (by decide) ?_
          refine lv_istore (lv' := [(5, .int 0), (0, .ref (ad 0)), (1, .int p1), (2, .int p2), (3, .int p3), (4, .int p4)]) hx hb dX5_shunt_37 hl (by decide) rfl (fun ls hl => ?_)
          refine lv_aload_n hx hb dX5_shunt_39 rfl (lv_at hl 1 rfl) ?_
          refine lv_iload hx hb dX5_shunt_40 (lv_at hl 0 rfl) ?_
          refine lv_if_ne (tgt := 49) hx hb dX5_shunt_42 (by decide) (fun h9 => absurd h9 (by decide)) (fun _ => ?_)
          refine lv_iconst (v := 1) hx hb dX5_shunt_45 (by decide) ?_
          refine lv_goto (tgt := 87) hx hb dX5_shunt_46 (by decide) ?_
          obtain ⟨σ11, e11, hF⟩ := stp_some hF
          refine gw_put hx hb hts hiX5 tyX5 tyX5_ok nmX5 hown hK hP hD hS 0 (wM_0 ad cA σ) rfl 0 (by decide) hw0 (fun _ h9 => h9) rfl (by decide +kernel) (show 0 < 30 from by decide) (wMv_0 ad cA σ _) dX5_shunt_87 e11 (fun H locs hP hD hS => ?_)
          refine lv_aload_n hx hb dX5_shunt_90 rfl (lv_at hl 1 rfl) ?_
          refine va_get (D := D) (ci := 5) (v := .int (σ11.2 0)) (C := RX5) (T := TX5) (N := 30) hx hb hts hiX5 hown hK hP 0 (wM_0 ad cA σ11) rfl 0 (by decide) hw0 (fun _ h9 => h9) rfl dX5_shunt_91 ?_
          refine lv_as (y := 1) (by rw [e11]; rfl) ?_
          refine lv_if_le (tgt := 99) hx hb dX5_shunt_94 (by decide) (fun h9 => absurd h9 (by decide)) (fun _ => ?_)
          refine lv_iconst (v := 0) hx hb dX5_shunt_97 (by decide) ?_
          exact g_iretN hx hb hr rfl hlocks hP hK hD hS dX5_shunt_98 hF
        · have hF := iteF hF c_10
          refine lv_iconst (v := 1) hx hb dX5_shunt_32 (by decide) ?_
          refine lv_goto (tgt := 37) hx hb dX5_shunt_33 (by decide) ?_
          refine lv_istore (lv' := [(5, .int 1), (0, .ref (ad 0)), (1, .int p1), (2, .int p2), (3, .int p3), (4, .int p4)]) hx hb dX5_shunt_37 hl (by decide) rfl (fun ls hl => ?_)
          refine lv_aload_n hx hb dX5_shunt_39 rfl (lv_at hl 1 rfl) ?_
          refine lv_iload hx hb dX5_shunt_40 (lv_at hl 0 rfl) ?_
          refine lv_if_ne (tgt := 49) hx hb dX5_shunt_42 (by decide) (fun _ => ?_) (fun h9 => absurd h9 (by decide))
          refine lv_aload_n hx hb dX5_shunt_49 rfl (lv_at hl 1 rfl) ?_
          refine va_get (D := D) (ci := 5) (v := .ref (ad 4)) (C := RX5) (T := TX5) (N := 30) hx hb hts hiX5 hown hK hP 0 (wM_0 ad cA σ) rfl 6 (by decide) hw2 (fun _ h9 => h9) rfl dX5_shunt_50 ?_
          refine lv_iconst (v := 5) hx hb dX5_shunt_53 (by decide) ?_
          refine lv_iload_n hx hb dX5_shunt_54 rfl (lv_at hl 2 rfl) ?_
          refine lv_imul hx hb dX5_shunt_55 ?_
          refine lv_iload_n hx hb dX5_shunt_56 rfl (lv_at hl 3 rfl) ?_
          refine lv_iadd hx hb dX5_shunt_57 ?_
          obtain ⟨hb_12, hF⟩ := chk_some hF
          refine va_iald hx hb hK hP 4 3 (wM_4 ad cA σ) (tM_4 cA) hb_12 dX5_shunt_58 ?_
          refine lv_iload hx hb dX5_shunt_59 (lv_at hl 5 rfl) ?_
          refine lv_icmp_lt (tgt := 82) hx hb dX5_shunt_61 (by decide) (fun c_13 => ?_) (fun c_13 => ?_)
          · have hF := iteT hF c_13
            refine lv_iconst (v := 2) hx hb dX5_shunt_82 (by decide) ?_
            refine lv_goto (tgt := 87) hx hb dX5_shunt_83 (by decide) ?_
            obtain ⟨σ14, e14, hF⟩ := stp_some hF
            refine gw_put hx hb hts hiX5 tyX5 tyX5_ok nmX5 hown hK hP hD hS 0 (wM_0 ad cA σ) rfl 0 (by decide) hw0 (fun _ h9 => h9) rfl (by decide +kernel) (show 0 < 30 from by decide) (wMv_0 ad cA σ _) dX5_shunt_87 e14 (fun H locs hP hD hS => ?_)
            refine lv_aload_n hx hb dX5_shunt_90 rfl (lv_at hl 1 rfl) ?_
            refine va_get (D := D) (ci := 5) (v := .int (σ14.2 0)) (C := RX5) (T := TX5) (N := 30) hx hb hts hiX5 hown hK hP 0 (wM_0 ad cA σ14) rfl 0 (by decide) hw0 (fun _ h9 => h9) rfl dX5_shunt_91 ?_
            refine lv_as (y := 2) (by rw [e14]; rfl) ?_
            refine lv_if_le (tgt := 99) hx hb dX5_shunt_94 (by decide) (fun h9 => absurd h9 (by decide)) (fun _ => ?_)
            refine lv_iconst (v := 0) hx hb dX5_shunt_97 (by decide) ?_
            exact g_iretN hx hb hr rfl hlocks hP hK hD hS dX5_shunt_98 hF
          · have hF := iteF hF c_13
            refine lv_aload_n hx hb dX5_shunt_64 rfl (lv_at hl 1 rfl) ?_
            refine va_get (D := D) (ci := 5) (v := .ref (ad 4)) (C := RX5) (T := TX5) (N := 30) hx hb hts hiX5 hown hK hP 0 (wM_0 ad cA σ) rfl 6 (by decide) hw2 (fun _ h9 => h9) rfl dX5_shunt_65 ?_
            refine lv_iconst (v := 5) hx hb dX5_shunt_68 (by decide) ?_
            refine lv_iload_n hx hb dX5_shunt_69 rfl (lv_at hl 2 rfl) ?_
            refine lv_imul hx hb dX5_shunt_70 ?_
            refine lv_iload_n hx hb dX5_shunt_71 rfl (lv_at hl 4 rfl) ?_
            refine lv_iadd hx hb dX5_shunt_72 ?_
            obtain ⟨hb_15, hF⟩ := chk_some hF
            refine va_iald hx hb hK hP 4 3 (wM_4 ad cA σ) (tM_4 cA) hb_15 dX5_shunt_73 ?_
            refine lv_iload hx hb dX5_shunt_74 (lv_at hl 5 rfl) ?_
            refine lv_iadd hx hb dX5_shunt_76 ?_
            refine lv_bipush (v := 6) hx hb dX5_shunt_77 (by decide) ?_
            refine lv_icmp_le (tgt := 86) hx hb dX5_shunt_79 (by decide) (fun c_16 => ?_) (fun c_16 => ?_)
            · have hF := iteT hF c_16
              refine lv_iconst (v := 0) hx hb dX5_shunt_86 (by decide) ?_
              obtain ⟨σ17, e17, hF⟩ := stp_some hF
              refine gw_put hx hb hts hiX5 tyX5 tyX5_ok nmX5 hown hK hP hD hS 0 (wM_0 ad cA σ) rfl 0 (by decide) hw0 (fun _ h9 => h9) rfl (by decide +kernel) (show 0 < 30 from by decide) (wMv_0 ad cA σ _) dX5_shunt_87 e17 (fun H locs hP hD hS => ?_)
              refine lv_aload_n hx hb dX5_shunt_90 rfl (lv_at hl 1 rfl) ?_
              refine va_get (D := D) (ci := 5) (v := .int (σ17.2 0)) (C := RX5) (T := TX5) (N := 30) hx hb hts hiX5 hown hK hP 0 (wM_0 ad cA σ17) rfl 0 (by decide) hw0 (fun _ h9 => h9) rfl dX5_shunt_91 ?_
              refine lv_as (y := 0) (by rw [e17]; rfl) ?_
              refine lv_if_le (tgt := 99) hx hb dX5_shunt_94 (by decide) (fun _ => ?_) (fun h9 => absurd h9 (by decide))
              refine lv_iconst (v := 5) hx hb dX5_shunt_99 (by decide) ?_
              refine lv_iload_n hx hb dX5_shunt_100 rfl (lv_at hl 2 rfl) ?_
              refine lv_imul hx hb dX5_shunt_101 ?_
              refine lv_iload_n hx hb dX5_shunt_102 rfl (lv_at hl 3 rfl) ?_
              refine lv_iadd hx hb dX5_shunt_103 ?_
              refine lv_istore (lv' := [(6, .int ((5 * p1) + p2)), (5, .int 1), (0, .ref (ad 0)), (1, .int p1), (2, .int p2), (3, .int p3), (4, .int p4)]) hx hb dX5_shunt_104 hl (by decide) rfl (fun ls hl => ?_)
              refine lv_aload_n hx hb dX5_shunt_106 rfl (lv_at hl 2 rfl) ?_
              refine va_get (D := D) (ci := 5) (v := .ref (ad 4)) (C := RX5) (T := TX5) (N := 30) hx hb hts hiX5 hown hK hP 0 (wM_0 ad cA σ17) rfl 6 (by decide) hw2 (fun _ h9 => h9) rfl dX5_shunt_107 ?_
              refine lv_iload hx hb dX5_shunt_110 (lv_at hl 0 rfl) ?_
              refine lv_dup2_11 hx hb dX5_shunt_112 rfl rfl ?_
              obtain ⟨hb_18, hF⟩ := chk_some hF
              refine va_iald hx hb hK hP 4 3 (wM_4 ad cA σ17) (tM_4 cA) hb_18 dX5_shunt_113 ?_
              refine lv_iload hx hb dX5_shunt_114 (lv_at hl 6 rfl) ?_
              refine lv_isub hx hb dX5_shunt_116 ?_
              obtain ⟨hb_19, hF⟩ := chk_some hF
              obtain ⟨σ20, e20, hF⟩ := stp_some hF
              refine gw_iast hx hb hK hP hD hS (wM_4 ad cA σ17) (tM_4 cA) (wMs_4 ad cA σ17) hb_19 dX5_shunt_117 e20 (fun H locs hP hD hS => ?_)
              refine lv_iconst (v := 0) hx hb dX5_shunt_118 (by decide) ?_
              refine lv_istore (lv' := [(7, .int 0), (6, .int ((5 * p1) + p2)), (5, .int 1), (0, .ref (ad 0)), (1, .int p1), (2, .int p2), (3, .int p3), (4, .int p4)]) hx hb dX5_shunt_119 hl (by decide) rfl (fun ls hl => ?_)
              have lp121 : ∀ (k : tyS → Int32 → Int32 → Int32 → Int32 → Int32 → Int32 → Int32 → Option (Int32 × tyS)), (∀ (σ0 : tyS) (x1 : Int32) (x2 : Int32) (x3 : Int32) (x4 : Int32) (x5 : Int32) (x6 : Int32) (x7 : Int32) , k σ0 x1 x2 x3 x4 x5 x6 x7 = some (r, τ) → ∀ (H : Heap) (locs : List Loc) (ls : Array Slot), va_P D vwCl (wM ad cA σ0) H → va_D A (wM ad cA σ0) → va_S A s.heap H locs → lv_has ls 8 [(0, .ref (ad 0)), (1, .int x1), (2, .int x2), (3, .int x3), (4, .int x4), (5, .int x5), (6, .int x6), (7, .int x7)] → W p l e (headSpec wsX5_shunt ({ frames := 3, cells := 0, slots := 0, locals := 63 } : Room)).room s m #[.ref (ad 0), .int p1, .int p2, .int p3, .int p4] below meth c H locs 0 0 (MQ below (gQi D (wM ad cA) (tM cA) A r τ) #[.ref (ad 0), .int p1, .int p2, .int p3, .int p4] s 0 0 A) (F0 m 161 ls [])) → ∀ (n : Nat), ∀ (σ0 : tyS) (x1 : Int32) (x2 : Int32) (x3 : Int32) (x4 : Int32) (x5 : Int32) (x6 : Int32) (x7 : Int32) , tyl_M_shunt_121 k n σ0 x1 x2 x3 x4 x5 x6 x7 = some (r, τ) → ∀ (H : Heap) (locs : List Loc) (ls : Array Slot), va_P D vwCl (wM ad cA σ0) H → va_D A (wM ad cA σ0) → va_S A s.heap H locs → lv_has ls 8 [(0, .ref (ad 0)), (1, .int x1), (2, .int x2), (3, .int x3), (4, .int x4), (5, .int x5), (6, .int x6), (7, .int x7)] → W p l e (headSpec wsX5_shunt ({ frames := 3, cells := 0, slots := 0, locals := 63 } : Room)).room s m #[.ref (ad 0), .int p1, .int p2, .int p3, .int p4] below meth c H locs 0 0 (MQ below (gQi D (wM ad cA) (tM cA) A r τ) #[.ref (ad 0), .int p1, .int p2, .int p3, .int p4] s 0 0 A) (F0 m 121 ls []) := by
                intro k hk n
                induction n with
                | zero =>
                  intro σ0 x1 x2 x3 x4 x5 x6 x7 hF
                  exact absurd hF (fun h => nomatch h)
                | succ n ih =>
                  intro σ0 x1 x2 x3 x4 x5 x6 x7 hF H locs ls hP hD hS hl
                  have hF : tyb_M_shunt_121 k (tyl_M_shunt_121 k n) σ0 x1 x2 x3 x4 x5 x6 x7 = some (r, τ) := hF
                  unfold tyb_M_shunt_121 at hF
                  refine lv_iload hx hb dX5_shunt_121 (lv_at hl 7 rfl) ?_
                  refine lv_iload hx hb dX5_shunt_123 (lv_at hl 4 rfl) ?_
                  refine lv_icmp_ge (tgt := 161) hx hb dX5_shunt_125 (by decide) (fun c_21 => ?_) (fun c_21 => ?_)
                  · have hF := iteT hF c_21
                    exact hk σ0 x1 x2 x3 x4 x5 x6 x7 hF _ _ _ hP hD hS (lv_sub hl [0, 1, 2, 3, 4, 5, 6, 7] rfl)
                  · have hF := iteF hF c_21
                    refine lv_aload_n hx hb dX5_shunt_128 rfl (lv_at hl 0 rfl) ?_
                    refine lv_iload_n hx hb dX5_shunt_129 rfl (lv_at hl 1 rfl) ?_
                    refine lv_iload_n hx hb dX5_shunt_130 rfl (lv_at hl 3 rfl) ?_
                    refine lv_aload_n hx hb dX5_shunt_131 rfl (lv_at hl 0 rfl) ?_
                    refine va_get (D := D) (ci := 5) (v := .ref (ad 5)) (C := RX5) (T := TX5) (N := 30) hx hb hts hiX5 hown hK hP 0 (wM_0 ad cA σ0) rfl 7 (by decide) hw3 (fun _ h9 => h9) rfl dX5_shunt_132 ?_
                    refine lv_bipush (v := 6) hx hb dX5_shunt_135 (by decide) ?_
                    refine lv_iload hx hb dX5_shunt_137 (lv_at hl 6 rfl) ?_
                    refine lv_imul hx hb dX5_shunt_139 ?_
                    refine lv_aload_n hx hb dX5_shunt_140 rfl (lv_at hl 0 rfl) ?_
                    refine va_get (D := D) (ci := 5) (v := .ref (ad 4)) (C := RX5) (T := TX5) (N := 30) hx hb hts hiX5 hown hK hP 0 (wM_0 ad cA σ0) rfl 6 (by decide) hw2 (fun _ h9 => h9) rfl dX5_shunt_141 ?_
                    refine lv_iload hx hb dX5_shunt_144 (lv_at hl 6 rfl) ?_
                    obtain ⟨hb_22, hF⟩ := chk_some hF
                    refine va_iald hx hb hK hP 4 3 (wM_4 ad cA σ0) (tM_4 cA) hb_22 dX5_shunt_146 ?_
                    refine lv_iadd hx hb dX5_shunt_147 ?_
                    refine lv_iload hx hb dX5_shunt_148 (lv_at hl 7 rfl) ?_
                    refine lv_iadd hx hb dX5_shunt_150 ?_
                    obtain ⟨hb_23, hF⟩ := chk_some hF
                    refine va_iald hx hb hK hP 5 4 (wM_5 ad cA σ0) (tM_5 cA) hb_23 dX5_shunt_151 ?_
                    obtain ⟨σ24, e24, hF⟩ := bR_some hF
                    refine gc_Vv (As := [.int x1, .int x3, .int (σ0.1 5 ((((6 * x6) + (σ0.1 4 (x6).toNatClampNeg)) + x7)).toNatClampNeg)]) hS9 (tyc_M_puts l D ad cA _ σ0 x1 x3 (σ0.1 5 ((((6 * x6) + (σ0.1 4 (x6).toNatClampNeg)) + x7)).toNatClampNeg) σ24 e24) (cwV 3 hts gX5_shunt_X5_puts rfl rfl rfl hd_X5_puts ⟨by decide, by decide⟩) hK hP hD hS hA hNN (ci := 5) (q0 := 0) (N := 30) rfl (wM_0 ad cA σ0) rfl hl.1 rfl (Nat.le_of_ble_eq_true rfl) dX5_shunt_152 (fun H locs hP hD hS => ?_)
                    refine lv_iinc (v := (x7 + 1)) (lv' := [(7, .int (x7 + 1)), (0, .ref (ad 0)), (1, .int x1), (2, .int x2), (3, .int x3), (4, .int x4), (5, .int x5), (6, .int x6)]) hx hb dX5_shunt_155 hl (k := 7) rfl rfl (by decide) rfl (fun ls hl => ?_)
                    refine lv_goto (tgt := 121) hx hb dX5_shunt_158 (by decide) ?_
                    exact ih σ24 x1 x2 x3 x4 x5 x6 (x7 + 1) hF _ _ _ hP hD hS (lv_sub hl [1, 2, 3, 4, 5, 6, 7, 0] rfl)
              refine lp121 _ ?_ 64 σ20 p1 p2 p3 p4 1 ((5 * p1) + p2) 0 hF _ _ _ hP hD hS (lv_sub hl [3, 4, 5, 6, 7, 2, 1, 0] rfl)
              intro σ0 x1 x2 x3 x4 x5 x6 x7 hF H locs ls hP hD hS hl
              refine lv_aload_n hx hb dX5_shunt_161 rfl (lv_at hl 0 rfl) ?_
              refine va_get (D := D) (ci := 5) (v := .ref (ad 4)) (C := RX5) (T := TX5) (N := 30) hx hb hts hiX5 hown hK hP 0 (wM_0 ad cA σ0) rfl 6 (by decide) hw2 (fun _ h9 => h9) rfl dX5_shunt_162 ?_
              refine lv_iconst (v := 5) hx hb dX5_shunt_165 (by decide) ?_
              refine lv_iload_n hx hb dX5_shunt_166 rfl (lv_at hl 1 rfl) ?_
              refine lv_imul hx hb dX5_shunt_167 ?_
              refine lv_iload_n hx hb dX5_shunt_168 rfl (lv_at hl 3 rfl) ?_
              refine lv_iadd hx hb dX5_shunt_169 ?_
              obtain ⟨hb_25, hF⟩ := chk_some hF
              refine va_iald hx hb hK hP 4 3 (wM_4 ad cA σ0) (tM_4 cA) hb_25 dX5_shunt_170 ?_
              exact g_iretN hx hb hr rfl hlocks hP hK hD hS dX5_shunt_171 hF
            · have hF := iteF hF c_16
              refine lv_iconst (v := 2) hx hb dX5_shunt_82 (by decide) ?_
              refine lv_goto (tgt := 87) hx hb dX5_shunt_83 (by decide) ?_
              obtain ⟨σ26, e26, hF⟩ := stp_some hF
              refine gw_put hx hb hts hiX5 tyX5 tyX5_ok nmX5 hown hK hP hD hS 0 (wM_0 ad cA σ) rfl 0 (by decide) hw0 (fun _ h9 => h9) rfl (by decide +kernel) (show 0 < 30 from by decide) (wMv_0 ad cA σ _) dX5_shunt_87 e26 (fun H locs hP hD hS => ?_)
              refine lv_aload_n hx hb dX5_shunt_90 rfl (lv_at hl 1 rfl) ?_
              refine va_get (D := D) (ci := 5) (v := .int (σ26.2 0)) (C := RX5) (T := TX5) (N := 30) hx hb hts hiX5 hown hK hP 0 (wM_0 ad cA σ26) rfl 0 (by decide) hw0 (fun _ h9 => h9) rfl dX5_shunt_91 ?_
              refine lv_as (y := 2) (by rw [e26]; rfl) ?_
              refine lv_if_le (tgt := 99) hx hb dX5_shunt_94 (by decide) (fun h9 => absurd h9 (by decide)) (fun _ => ?_)
              refine lv_iconst (v := 0) hx hb dX5_shunt_97 (by decide) ?_
              exact g_iretN hx hb hr rfl hlocks hP hK hD hS dX5_shunt_98 hF
set_option maxHeartbeats 4000000 in
set_option maxRecDepth 100000 in
theorem tyc_M_wash (l : Launch) (D : va_G) (ad : Nat → Nat) (cA : Nat → ClassId) (sz : Nat) (σ : tyS) (p1 : Int32) (r : Int32) (τ : tyS) (hF : tyf_M_wash σ p1 = some (r, τ)) : gMi l yX5_wash wsX5_wash ({ frames := 2, cells := 0, slots := 0, locals := 42 } : Room) D (wM ad cA) (tM cA) [.ref (ad 0), .int p1] sz σ r τ := by
  refine Met.ofW (cc := cX5_wash) (maxL := 5) (ret := (some .int)) (by decide) rfl ?_
  intro p e s m args below meth c s₁ B hml hv
  obtain ⟨rfl, hsz, hP, hK, hD0, hNN⟩ := hv
  have hx := B.exec
  have hb := B.bytes
  have hr := B.returns
  have hts := atoms_spec (ws := wsX5_wash) B.pre
  have hown : s.vm.findClass RX5 = some m.cls := findClass_of_methodNamed B.named
  have hlocks := B.notSynchronized
  subst hsz
  have hD := hD0.self (sz := s.heap.size)
  generalize hAe : va_A (wM ad cA σ) s.heap.size = A at hD ⊢
  have hA : ∀ q : Nat, s.heap.size ≤ q → A q := fun q h => by rw [← hAe]; exact Or.inr h
  clear hAe hD0
  have hS : va_S A s.heap s.heap [] := va_S.rf
  have hl := lv_entry ([.ref (ad 0), .int p1]) (n := 5) (Nat.le_of_ble_eq_true rfl)
  rw [lg_entry_eq]
  generalize (lg_sl ([.ref (ad 0), .int p1]) ++ List.replicate (5 - (lg_sl ([.ref (ad 0), .int p1])).length) Slot.unset).toArray = ls at hl ⊢
  have hl : lv_has ls 5 [(0, .ref (ad 0)), (1, .int p1)] := hl
  have hS9 : CallFix p m c cX5_wash 5 s _ wsX5_wash RX5 := ⟨hx, hb, hml, hown, hts⟩
  have hw0 := hts (.fieldLink RX5 19 "TrunkYardsModel" "on" "[I") (List.mem_cons_of_mem _ (List.mem_of_getElem? (i := 0) rfl))
  have hiX5 : ∀ w ∈ wsX50, w ∈ wsX5_wash := fun w h => List.mem_cons_of_mem _ (List.mem_append_right _ h)
  have hw2 := hts (.fieldLink RX5 80 "TrunkYardsModel" "thrown" "I") (List.mem_cons_of_mem _ (List.mem_of_getElem? (i := 1) rfl))
  have hw3 := hts (.fieldLink RX5 22 "TrunkYardsModel" "track" "[I") (List.mem_cons_of_mem _ (List.mem_of_getElem? (i := 2) rfl))
  have hw4 := hts (.fieldLink RX5 13 "TrunkYardsModel" "carried" "[I") (List.mem_cons_of_mem _ (List.mem_of_getElem? (i := 3) rfl))
  unfold tyf_M_wash at hF
  refine lv_aload_n hx hb dX5_wash_0 rfl (lv_at hl 0 rfl) ?_
  refine lv_iload_n hx hb dX5_wash_1 rfl (lv_at hl 1 rfl) ?_
  obtain ⟨r1, er1, hF⟩ := bR_some hF
  refine gc_Si (As := [.int p1]) hS9 (tyc_M_isYard l D ad cA _ σ p1 r1 er1) (va_cwS 1 hts gX5_wash_X5_isYard rfl rfl rfl hd_X5_isYard ⟨by decide, by decide⟩) hK hP hD hS hA hNN rfl hl.1 rfl (Nat.le_of_ble_eq_true rfl) dX5_wash_2 (fun H locs hP hD hS => ?_)
  refine lv_if_ne (tgt := 12) hx hb dX5_wash_5 (by decide) (fun c_2 => ?_) (fun c_2 => ?_)
  · have hF := iteF hF c_2
    refine lv_aload_n hx hb dX5_wash_12 rfl (lv_at hl 0 rfl) ?_
    refine va_get (D := D) (ci := 5) (v := .ref (ad 4)) (C := RX5) (T := TX5) (N := 30) hx hb hts hiX5 hown hK hP 0 (wM_0 ad cA σ) rfl 6 (by decide) hw0 (fun _ h9 => h9) rfl dX5_wash_13 ?_
    refine lv_iconst (v := 5) hx hb dX5_wash_16 (by decide) ?_
    refine lv_iload_n hx hb dX5_wash_17 rfl (lv_at hl 1 rfl) ?_
    refine lv_imul hx hb dX5_wash_18 ?_
    obtain ⟨hb_3, hF⟩ := chk_some hF
    refine va_iald hx hb hK hP 4 3 (wM_4 ad cA σ) (tM_4 cA) hb_3 dX5_wash_19 ?_
    refine lv_if_ne (tgt := 27) hx hb dX5_wash_20 (by decide) (fun c_4 => ?_) (fun c_4 => ?_)
    · have hF := iteF hF c_4
      refine lv_iconst (v := 0) hx hb dX5_wash_27 (by decide) ?_
      obtain ⟨σ5, e5, hF⟩ := stp_some hF
      refine gw_put hx hb hts hiX5 tyX5 tyX5_ok nmX5 hown hK hP hD hS 0 (wM_0 ad cA σ) rfl 0 (by decide) hw2 (fun _ h9 => h9) rfl (by decide +kernel) (show 0 < 30 from by decide) (wMv_0 ad cA σ _) dX5_wash_28 e5 (fun H locs hP hD hS => ?_)
      refine lv_aload_n hx hb dX5_wash_31 rfl (lv_at hl 0 rfl) ?_
      refine va_get (D := D) (ci := 5) (v := .int (σ5.2 0)) (C := RX5) (T := TX5) (N := 30) hx hb hts hiX5 hown hK hP 0 (wM_0 ad cA σ5) rfl 0 (by decide) hw2 (fun _ h9 => h9) rfl dX5_wash_32 ?_
      refine lv_as (y := 0) (by rw [e5]; rfl) ?_
      refine lv_if_le (tgt := 40) hx hb dX5_wash_35 (by decide) (fun _ => ?_) (fun h9 => absurd h9 (by decide))
      refine lv_iconst (v := 5) hx hb dX5_wash_40 (by decide) ?_
      refine lv_iload_n hx hb dX5_wash_41 rfl (lv_at hl 1 rfl) ?_
      refine lv_imul hx hb dX5_wash_42 ?_
      refine lv_istore_n (lv' := [(2, .int (5 * p1)), (0, .ref (ad 0)), (1, .int p1)]) hx hb dX5_wash_43 rfl hl (by decide) rfl (fun ls hl => ?_)
      refine lv_aload_n hx hb dX5_wash_44 rfl (lv_at hl 1 rfl) ?_
      refine va_get (D := D) (ci := 5) (v := .ref (ad 5)) (C := RX5) (T := TX5) (N := 30) hx hb hts hiX5 hown hK hP 0 (wM_0 ad cA σ5) rfl 7 (by decide) hw3 (fun _ h9 => h9) rfl dX5_wash_45 ?_
      refine lv_bipush (v := 6) hx hb dX5_wash_48 (by decide) ?_
      refine lv_iload_n hx hb dX5_wash_50 rfl (lv_at hl 0 rfl) ?_
      refine lv_imul hx hb dX5_wash_51 ?_
      refine lv_aload_n hx hb dX5_wash_52 rfl (lv_at hl 1 rfl) ?_
      refine va_get (D := D) (ci := 5) (v := .ref (ad 4)) (C := RX5) (T := TX5) (N := 30) hx hb hts hiX5 hown hK hP 0 (wM_0 ad cA σ5) rfl 6 (by decide) hw0 (fun _ h9 => h9) rfl dX5_wash_53 ?_
      refine lv_iload_n hx hb dX5_wash_56 rfl (lv_at hl 0 rfl) ?_
      obtain ⟨hb_6, hF⟩ := chk_some hF
      refine va_iald hx hb hK hP 4 3 (wM_4 ad cA σ5) (tM_4 cA) hb_6 dX5_wash_57 ?_
      refine lv_iadd hx hb dX5_wash_58 ?_
      refine lv_iconst (v := 1) hx hb dX5_wash_59 (by decide) ?_
      refine lv_isub hx hb dX5_wash_60 ?_
      obtain ⟨hb_7, hF⟩ := chk_some hF
      refine va_iald hx hb hK hP 5 4 (wM_5 ad cA σ5) (tM_5 cA) hb_7 dX5_wash_61 ?_
      refine lv_istore_n (lv' := [(3, .int (σ5.1 5 ((((6 * (5 * p1)) + (σ5.1 4 ((5 * p1)).toNatClampNeg)) - 1)).toNatClampNeg)), (2, .int (5 * p1)), (0, .ref (ad 0)), (1, .int p1)]) hx hb dX5_wash_62 rfl hl (by decide) rfl (fun ls hl => ?_)
      refine lv_aload_n hx hb dX5_wash_63 rfl (lv_at hl 2 rfl) ?_
      refine va_get (D := D) (ci := 5) (v := .ref (ad 2)) (C := RX5) (T := TX5) (N := 30) hx hb hts hiX5 hown hK hP 0 (wM_0 ad cA σ5) rfl 4 (by decide) hw4 (fun _ h9 => h9) rfl dX5_wash_64 ?_
      refine lv_iload_n hx hb dX5_wash_67 rfl (lv_at hl 0 rfl) ?_
      obtain ⟨hb_8, hF⟩ := chk_some hF
      refine va_iald hx hb hK hP 2 1 (wM_2 ad cA σ5) (tM_2 cA) hb_8 dX5_wash_68 ?_
      refine lv_istore (lv' := [(4, .int (σ5.1 2 ((σ5.1 5 ((((6 * (5 * p1)) + (σ5.1 4 ((5 * p1)).toNatClampNeg)) - 1)).toNatClampNeg)).toNatClampNeg)), (3, .int (σ5.1 5 ((((6 * (5 * p1)) + (σ5.1 4 ((5 * p1)).toNatClampNeg)) - 1)).toNatClampNeg)), (2, .int (5 * p1)), (0, .ref (ad 0)), (1, .int p1)]) hx hb dX5_wash_69 hl (by decide) rfl (fun ls hl => ?_)
      refine lv_aload_n hx hb dX5_wash_71 rfl (lv_at hl 3 rfl) ?_
      refine va_get (D := D) (ci := 5) (v := .ref (ad 2)) (C := RX5) (T := TX5) (N := 30) hx hb hts hiX5 hown hK hP 0 (wM_0 ad cA σ5) rfl 4 (by decide) hw4 (fun _ h9 => h9) rfl dX5_wash_72 ?_
      refine lv_iload_n hx hb dX5_wash_75 rfl (lv_at hl 1 rfl) ?_
      refine lv_iconst (v := (-1)) hx hb dX5_wash_76 (by decide) ?_
      obtain ⟨hb_9, hF⟩ := chk_some hF
      obtain ⟨σ10, e10, hF⟩ := stp_some hF
      refine gw_iast hx hb hK hP hD hS (wM_2 ad cA σ5) (tM_2 cA) (wMs_2 ad cA σ5) hb_9 dX5_wash_77 e10 (fun H locs hP hD hS => ?_)
      refine lv_iload hx hb dX5_wash_78 (lv_at hl 0 rfl) ?_
      exact g_iretN hx hb hr rfl hlocks hP hK hD hS dX5_wash_80 hF
    · have hF := iteT hF c_4
      refine lv_iconst (v := 2) hx hb dX5_wash_23 (by decide) ?_
      refine lv_goto (tgt := 28) hx hb dX5_wash_24 (by decide) ?_
      obtain ⟨σ11, e11, hF⟩ := stp_some hF
      refine gw_put hx hb hts hiX5 tyX5 tyX5_ok nmX5 hown hK hP hD hS 0 (wM_0 ad cA σ) rfl 0 (by decide) hw2 (fun _ h9 => h9) rfl (by decide +kernel) (show 0 < 30 from by decide) (wMv_0 ad cA σ _) dX5_wash_28 e11 (fun H locs hP hD hS => ?_)
      refine lv_aload_n hx hb dX5_wash_31 rfl (lv_at hl 0 rfl) ?_
      refine va_get (D := D) (ci := 5) (v := .int (σ11.2 0)) (C := RX5) (T := TX5) (N := 30) hx hb hts hiX5 hown hK hP 0 (wM_0 ad cA σ11) rfl 0 (by decide) hw2 (fun _ h9 => h9) rfl dX5_wash_32 ?_
      refine lv_as (y := 2) (by rw [e11]; rfl) ?_
      refine lv_if_le (tgt := 40) hx hb dX5_wash_35 (by decide) (fun h9 => absurd h9 (by decide)) (fun _ => ?_)
      refine lv_iconst (v := 0) hx hb dX5_wash_38 (by decide) ?_
      exact g_iretN hx hb hr rfl hlocks hP hK hD hS dX5_wash_39 hF
  · have hF := iteT hF c_2
    refine lv_iconst (v := 1) hx hb dX5_wash_8 (by decide) ?_
    refine lv_goto (tgt := 28) hx hb dX5_wash_9 (by decide) ?_
    obtain ⟨σ12, e12, hF⟩ := stp_some hF
    refine gw_put hx hb hts hiX5 tyX5 tyX5_ok nmX5 hown hK hP hD hS 0 (wM_0 ad cA σ) rfl 0 (by decide) hw2 (fun _ h9 => h9) rfl (by decide +kernel) (show 0 < 30 from by decide) (wMv_0 ad cA σ _) dX5_wash_28 e12 (fun H locs hP hD hS => ?_)
    refine lv_aload_n hx hb dX5_wash_31 rfl (lv_at hl 0 rfl) ?_
    refine va_get (D := D) (ci := 5) (v := .int (σ12.2 0)) (C := RX5) (T := TX5) (N := 30) hx hb hts hiX5 hown hK hP 0 (wM_0 ad cA σ12) rfl 0 (by decide) hw2 (fun _ h9 => h9) rfl dX5_wash_32 ?_
    refine lv_as (y := 1) (by rw [e12]; rfl) ?_
    refine lv_if_le (tgt := 40) hx hb dX5_wash_35 (by decide) (fun h9 => absurd h9 (by decide)) (fun _ => ?_)
    refine lv_iconst (v := 0) hx hb dX5_wash_38 (by decide) ?_
    exact g_iretN hx hb hr rfl hlocks hP hK hD hS dX5_wash_39 hF
set_option maxHeartbeats 4000000 in
set_option maxRecDepth 100000 in
theorem tyc_M_isGrain (l : Launch) (D : va_G) (ad : Nat → Nat) (cA : Nat → ClassId) (sz : Nat) (σ : tyS) (p0 : Int32) (r : Int32) (hF : tyf_M_isGrain σ p0 = some r) : gMi l yX5_isGrain wsX5_isGrain ({ frames := 1, cells := 0, slots := 0, locals := 22 } : Room) D (wM ad cA) (tM cA) [.int p0] sz σ r σ := by
  refine Met.ofW (cc := cX5_isGrain) (maxL := 1) (ret := (some .boolean)) (by decide) rfl ?_
  intro p e s m args below meth c s₁ B hml hv
  obtain ⟨rfl, hsz, hP, hK, hD0, hNN⟩ := hv
  have hx := B.exec
  have hb := B.bytes
  have hr := B.returns
  have hts := atoms_spec (ws := wsX5_isGrain) B.pre
  have hown : s.vm.findClass RX5 = some m.cls := findClass_of_methodNamed B.named
  have hlocks := B.notSynchronized
  subst hsz
  have hD := hD0.self (sz := s.heap.size)
  generalize hAe : va_A (wM ad cA σ) s.heap.size = A at hD ⊢
  have hA : ∀ q : Nat, s.heap.size ≤ q → A q := fun q h => by rw [← hAe]; exact Or.inr h
  clear hAe hD0
  have hS : va_S A s.heap s.heap [] := va_S.rf
  have hl := lv_entry ([.int p0]) (n := 1) (Nat.le_of_ble_eq_true rfl)
  rw [lg_entry_eq]
  generalize (lg_sl ([.int p0]) ++ List.replicate (1 - (lg_sl ([.int p0])).length) Slot.unset).toArray = ls at hl ⊢
  have hl : lv_has ls 1 [(0, .int p0)] := hl
  have hS9 : CallFix p m c cX5_isGrain 1 s _ wsX5_isGrain RX5 := ⟨hx, hb, hml, hown, hts⟩
  unfold tyf_M_isGrain at hF
  refine lv_iload_n hx hb dX5_isGrain_0 rfl (lv_at hl 0 rfl) ?_
  refine lv_iconst (v := 0) hx hb dX5_isGrain_1 (by decide) ?_
  refine lv_iconst (v := 3) hx hb dX5_isGrain_2 (by decide) ?_
  obtain ⟨r1, er1, hF⟩ := bR_some hF
  refine gc_Si (As := [.int p0, .int 0, .int 3]) hS9 (tyc_M_in l D ad cA _ σ p0 0 3 r1 er1) (va_cwS 3 hts gX5_isGrain_X5_in rfl rfl rfl hd_X5_in ⟨by decide, by decide⟩) hK hP hD hS hA hNN rfl hl.1 rfl (Nat.le_of_ble_eq_true rfl) dX5_isGrain_3 (fun H locs hP hD hS => ?_)
  obtain ⟨hn_2, hF⟩ := chkb_some hF
  have hn_2 := of_decide_eq_true hn_2
  exact g_iretR hx hb hr (congrArg Value.int hn_2) hlocks hP hK hD hS dX5_isGrain_6 hF
set_option maxHeartbeats 4000000 in
set_option maxRecDepth 100000 in
theorem tyc_M_follow (l : Launch) (D : va_G) (ad : Nat → Nat) (cA : Nat → ClassId) (sz : Nat) (σ : tyS) (p1 : Int32) (p2 : Int32) (r : Int32) (τ : tyS) (hF : tyf_M_follow σ p1 p2 = some (r, τ)) : gMi l yX5_follow wsX5_follow ({ frames := 2, cells := 0, slots := 0, locals := 42 } : Room) D (wM ad cA) (tM cA) [.ref (ad 0), .int p1, .int p2] sz σ r τ := by
  refine Met.ofW (cc := cX5_follow) (maxL := 3) (ret := (some .boolean)) (by decide) rfl ?_
  intro p e s m args below meth c s₁ B hml hv
  obtain ⟨rfl, hsz, hP, hK, hD0, hNN⟩ := hv
  have hx := B.exec
  have hb := B.bytes
  have hr := B.returns
  have hts := atoms_spec (ws := wsX5_follow) B.pre
  have hown : s.vm.findClass RX5 = some m.cls := findClass_of_methodNamed B.named
  have hlocks := B.notSynchronized
  subst hsz
  have hD := hD0.self (sz := s.heap.size)
  generalize hAe : va_A (wM ad cA σ) s.heap.size = A at hD ⊢
  have hA : ∀ q : Nat, s.heap.size ≤ q → A q := fun q h => by rw [← hAe]; exact Or.inr h
  clear hAe hD0
  have hS : va_S A s.heap s.heap [] := va_S.rf
  have hl := lv_entry ([.ref (ad 0), .int p1, .int p2]) (n := 3) (Nat.le_of_ble_eq_true rfl)
  rw [lg_entry_eq]
  generalize (lg_sl ([.ref (ad 0), .int p1, .int p2]) ++ List.replicate (3 - (lg_sl ([.ref (ad 0), .int p1, .int p2])).length) Slot.unset).toArray = ls at hl ⊢
  have hl : lv_has ls 3 [(0, .ref (ad 0)), (1, .int p1), (2, .int p2)] := hl
  have hS9 : CallFix p m c cX5_follow 3 s _ wsX5_follow RX5 := ⟨hx, hb, hml, hown, hts⟩
  have hw0 := hts (.fieldLink RX5 80 "TrunkYardsModel" "thrown" "I") (List.mem_cons_of_mem _ (List.mem_of_getElem? (i := 0) rfl))
  have hiX5 : ∀ w ∈ wsX50, w ∈ wsX5_follow := fun w h => List.mem_cons_of_mem _ (List.mem_append_right _ h)
  have hw2 := hts (.fieldLink RX5 25 "TrunkYardsModel" "follows" "[I") (List.mem_cons_of_mem _ (List.mem_of_getElem? (i := 1) rfl))
  unfold tyf_M_follow at hF
  refine lv_aload_n hx hb dX5_follow_0 rfl (lv_at hl 0 rfl) ?_
  refine lv_iload_n hx hb dX5_follow_1 rfl (lv_at hl 1 rfl) ?_
  obtain ⟨r1, er1, hF⟩ := bR_some hF
  refine gc_Si (As := [.int p1]) hS9 (tyc_M_isGrain l D ad cA _ σ p1 r1 er1) (va_cwS 1 hts gX5_follow_X5_isGrain rfl rfl rfl hd_X5_isGrain ⟨by decide, by decide⟩) hK hP hD hS hA hNN rfl hl.1 rfl (Nat.le_of_ble_eq_true rfl) dX5_follow_2 (fun H locs hP hD hS => ?_)
  refine lv_if_eq (tgt := 24) hx hb dX5_follow_5 (by decide) (fun c_2 => ?_) (fun c_2 => ?_)
  · have hF := iteT hF c_2
    refine lv_iconst (v := 1) hx hb dX5_follow_24 (by decide) ?_
    obtain ⟨σ3, e3, hF⟩ := stp_some hF
    refine gw_put hx hb hts hiX5 tyX5 tyX5_ok nmX5 hown hK hP hD hS 0 (wM_0 ad cA σ) rfl 0 (by decide) hw0 (fun _ h9 => h9) rfl (by decide +kernel) (show 0 < 30 from by decide) (wMv_0 ad cA σ _) dX5_follow_25 e3 (fun H locs hP hD hS => ?_)
    refine lv_aload_n hx hb dX5_follow_28 rfl (lv_at hl 0 rfl) ?_
    refine va_get (D := D) (ci := 5) (v := .int (σ3.2 0)) (C := RX5) (T := TX5) (N := 30) hx hb hts hiX5 hown hK hP 0 (wM_0 ad cA σ3) rfl 0 (by decide) hw0 (fun _ h9 => h9) rfl dX5_follow_29 ?_
    refine lv_as (y := 1) (by rw [e3]; rfl) ?_
    refine lv_if_le (tgt := 37) hx hb dX5_follow_32 (by decide) (fun h9 => absurd h9 (by decide)) (fun _ => ?_)
    refine lv_iconst (v := 0) hx hb dX5_follow_35 (by decide) ?_
    exact g_iretN hx hb hr rfl hlocks hP hK hD hS dX5_follow_36 hF
  · have hF := iteF hF c_2
    refine lv_iload_n hx hb dX5_follow_8 rfl (lv_at hl 2 rfl) ?_
    obtain ⟨r4, er4, hF⟩ := bR_some hF
    refine gc_Si (As := [.int p2]) hS9 (tyc_M_isGrain l D ad cA _ σ p2 r4 er4) (va_cwS 1 hts gX5_follow_X5_isGrain rfl rfl rfl hd_X5_isGrain ⟨by decide, by decide⟩) hK hP hD hS hA hNN rfl hl.1 rfl (Nat.le_of_ble_eq_true rfl) dX5_follow_9 (fun H locs hP hD hS => ?_)
    refine lv_if_eq (tgt := 24) hx hb dX5_follow_12 (by decide) (fun c_5 => ?_) (fun c_5 => ?_)
    · have hF := iteT hF c_5
      refine lv_iconst (v := 1) hx hb dX5_follow_24 (by decide) ?_
      obtain ⟨σ6, e6, hF⟩ := stp_some hF
      refine gw_put hx hb hts hiX5 tyX5 tyX5_ok nmX5 hown hK hP hD hS 0 (wM_0 ad cA σ) rfl 0 (by decide) hw0 (fun _ h9 => h9) rfl (by decide +kernel) (show 0 < 30 from by decide) (wMv_0 ad cA σ _) dX5_follow_25 e6 (fun H locs hP hD hS => ?_)
      refine lv_aload_n hx hb dX5_follow_28 rfl (lv_at hl 0 rfl) ?_
      refine va_get (D := D) (ci := 5) (v := .int (σ6.2 0)) (C := RX5) (T := TX5) (N := 30) hx hb hts hiX5 hown hK hP 0 (wM_0 ad cA σ6) rfl 0 (by decide) hw0 (fun _ h9 => h9) rfl dX5_follow_29 ?_
      refine lv_as (y := 1) (by rw [e6]; rfl) ?_
      refine lv_if_le (tgt := 37) hx hb dX5_follow_32 (by decide) (fun h9 => absurd h9 (by decide)) (fun _ => ?_)
      refine lv_iconst (v := 0) hx hb dX5_follow_35 (by decide) ?_
      exact g_iretN hx hb hr rfl hlocks hP hK hD hS dX5_follow_36 hF
    · have hF := iteF hF c_5
      refine lv_iload_n hx hb dX5_follow_15 rfl (lv_at hl 1 rfl) ?_
      refine lv_iload_n hx hb dX5_follow_16 rfl (lv_at hl 2 rfl) ?_
      refine lv_icmp_eq (tgt := 24) hx hb dX5_follow_17 (by decide) (fun c_7 => ?_) (fun c_7 => ?_)
      · have hF := iteT hF c_7
        refine lv_iconst (v := 1) hx hb dX5_follow_24 (by decide) ?_
        obtain ⟨σ8, e8, hF⟩ := stp_some hF
        refine gw_put hx hb hts hiX5 tyX5 tyX5_ok nmX5 hown hK hP hD hS 0 (wM_0 ad cA σ) rfl 0 (by decide) hw0 (fun _ h9 => h9) rfl (by decide +kernel) (show 0 < 30 from by decide) (wMv_0 ad cA σ _) dX5_follow_25 e8 (fun H locs hP hD hS => ?_)
        refine lv_aload_n hx hb dX5_follow_28 rfl (lv_at hl 0 rfl) ?_
        refine va_get (D := D) (ci := 5) (v := .int (σ8.2 0)) (C := RX5) (T := TX5) (N := 30) hx hb hts hiX5 hown hK hP 0 (wM_0 ad cA σ8) rfl 0 (by decide) hw0 (fun _ h9 => h9) rfl dX5_follow_29 ?_
        refine lv_as (y := 1) (by rw [e8]; rfl) ?_
        refine lv_if_le (tgt := 37) hx hb dX5_follow_32 (by decide) (fun h9 => absurd h9 (by decide)) (fun _ => ?_)
        refine lv_iconst (v := 0) hx hb dX5_follow_35 (by decide) ?_
        exact g_iretN hx hb hr rfl hlocks hP hK hD hS dX5_follow_36 hF
      · have hF := iteF hF c_7
        refine lv_iconst (v := 0) hx hb dX5_follow_20 (by decide) ?_
        refine lv_goto (tgt := 25) hx hb dX5_follow_21 (by decide) ?_
        obtain ⟨σ9, e9, hF⟩ := stp_some hF
        refine gw_put hx hb hts hiX5 tyX5 tyX5_ok nmX5 hown hK hP hD hS 0 (wM_0 ad cA σ) rfl 0 (by decide) hw0 (fun _ h9 => h9) rfl (by decide +kernel) (show 0 < 30 from by decide) (wMv_0 ad cA σ _) dX5_follow_25 e9 (fun H locs hP hD hS => ?_)
        refine lv_aload_n hx hb dX5_follow_28 rfl (lv_at hl 0 rfl) ?_
        refine va_get (D := D) (ci := 5) (v := .int (σ9.2 0)) (C := RX5) (T := TX5) (N := 30) hx hb hts hiX5 hown hK hP 0 (wM_0 ad cA σ9) rfl 0 (by decide) hw0 (fun _ h9 => h9) rfl dX5_follow_29 ?_
        refine lv_as (y := 0) (by rw [e9]; rfl) ?_
        refine lv_if_le (tgt := 37) hx hb dX5_follow_32 (by decide) (fun _ => ?_) (fun h9 => absurd h9 (by decide))
        refine lv_aload_n hx hb dX5_follow_37 rfl (lv_at hl 0 rfl) ?_
        refine va_get (D := D) (ci := 5) (v := .ref (ad 6)) (C := RX5) (T := TX5) (N := 30) hx hb hts hiX5 hown hK hP 0 (wM_0 ad cA σ9) rfl 8 (by decide) hw2 (fun _ h9 => h9) rfl dX5_follow_38 ?_
        refine lv_iload_n hx hb dX5_follow_41 rfl (lv_at hl 1 rfl) ?_
        refine lv_dup2_11 hx hb dX5_follow_42 rfl rfl ?_
        obtain ⟨hb_10, hF⟩ := chk_some hF
        refine va_iald hx hb hK hP 6 5 (wM_6 ad cA σ9) (tM_6 cA) hb_10 dX5_follow_43 ?_
        refine lv_iconst (v := 1) hx hb dX5_follow_44 (by decide) ?_
        refine lv_iload_n hx hb dX5_follow_45 rfl (lv_at hl 2 rfl) ?_
        refine lv_ishl hx hb dX5_follow_46 ?_
        refine lv_ixor hx hb dX5_follow_47 ?_
        obtain ⟨hb_11, hF⟩ := chk_some hF
        obtain ⟨σ12, e12, hF⟩ := stp_some hF
        refine gw_iast hx hb hK hP hD hS (wM_6 ad cA σ9) (tM_6 cA) (wMs_6 ad cA σ9) hb_11 dX5_follow_48 e12 (fun H locs hP hD hS => ?_)
        refine lv_aload_n hx hb dX5_follow_49 rfl (lv_at hl 0 rfl) ?_
        refine va_get (D := D) (ci := 5) (v := .ref (ad 6)) (C := RX5) (T := TX5) (N := 30) hx hb hts hiX5 hown hK hP 0 (wM_0 ad cA σ12) rfl 8 (by decide) hw2 (fun _ h9 => h9) rfl dX5_follow_50 ?_
        refine lv_iload_n hx hb dX5_follow_53 rfl (lv_at hl 1 rfl) ?_
        obtain ⟨hb_13, hF⟩ := chk_some hF
        refine va_iald hx hb hK hP 6 5 (wM_6 ad cA σ12) (tM_6 cA) hb_13 dX5_follow_54 ?_
        refine lv_iload_n hx hb dX5_follow_55 rfl (lv_at hl 2 rfl) ?_
        refine lv_ishr hx hb dX5_follow_56 ?_
        refine lv_iconst (v := 1) hx hb dX5_follow_57 (by decide) ?_
        refine lv_iand hx hb dX5_follow_58 ?_
        refine lv_iconst (v := 1) hx hb dX5_follow_59 (by decide) ?_
        refine lv_icmp_ne (tgt := 67) hx hb dX5_follow_60 (by decide) (fun c_14 => ?_) (fun c_14 => ?_)
        · have hF := iteF hF c_14
          refine lv_iconst (v := 0) hx hb dX5_follow_67 (by decide) ?_
          exact g_iretN hx hb hr rfl hlocks hP hK hD hS dX5_follow_68 hF
        · have hF := iteT hF c_14
          refine lv_iconst (v := 1) hx hb dX5_follow_63 (by decide) ?_
          refine lv_goto (tgt := 68) hx hb dX5_follow_64 (by decide) ?_
          exact g_iretN hx hb hr rfl hlocks hP hK hD hS dX5_follow_68 hF
set_option maxHeartbeats 4000000 in
set_option maxRecDepth 100000 in
theorem tyc_M_on (l : Launch) (D : va_G) (ad : Nat → Nat) (cA : Nat → ClassId) (sz : Nat) (σ : tyS) (p1 : Int32) (p2 : Int32) (r : Int32) (τ : tyS) (hF : tyf_M_on σ p1 p2 = some (r, τ)) : gMi l yX5_on wsX5_on ({ frames := 3, cells := 0, slots := 0, locals := 63 } : Room) D (wM ad cA) (tM cA) [.ref (ad 0), .int p1, .int p2] sz σ r τ := by
  refine Met.ofW (cc := cX5_on) (maxL := 3) (ret := (some .int)) (by decide) rfl ?_
  intro p e s m args below meth c s₁ B hml hv
  obtain ⟨rfl, hsz, hP, hK, hD0, hNN⟩ := hv
  have hx := B.exec
  have hb := B.bytes
  have hr := B.returns
  have hts := atoms_spec (ws := wsX5_on) B.pre
  have hown : s.vm.findClass RX5 = some m.cls := findClass_of_methodNamed B.named
  have hlocks := B.notSynchronized
  subst hsz
  have hD := hD0.self (sz := s.heap.size)
  generalize hAe : va_A (wM ad cA σ) s.heap.size = A at hD ⊢
  have hA : ∀ q : Nat, s.heap.size ≤ q → A q := fun q h => by rw [← hAe]; exact Or.inr h
  clear hAe hD0
  have hS : va_S A s.heap s.heap [] := va_S.rf
  have hl := lv_entry ([.ref (ad 0), .int p1, .int p2]) (n := 3) (Nat.le_of_ble_eq_true rfl)
  rw [lg_entry_eq]
  generalize (lg_sl ([.ref (ad 0), .int p1, .int p2]) ++ List.replicate (3 - (lg_sl ([.ref (ad 0), .int p1, .int p2])).length) Slot.unset).toArray = ls at hl ⊢
  have hl : lv_has ls 3 [(0, .ref (ad 0)), (1, .int p1), (2, .int p2)] := hl
  have hS9 : CallFix p m c cX5_on 3 s _ wsX5_on RX5 := ⟨hx, hb, hml, hown, hts⟩
  have hw0 := hts (.fieldLink RX5 80 "TrunkYardsModel" "thrown" "I") (List.mem_cons_of_mem _ (List.mem_of_getElem? (i := 0) rfl))
  have hiX5 : ∀ w ∈ wsX50, w ∈ wsX5_on := fun w h => List.mem_cons_of_mem _ (List.mem_append_right _ h)
  have hw2 := hts (.fieldLink RX5 19 "TrunkYardsModel" "on" "[I") (List.mem_cons_of_mem _ (List.mem_of_getElem? (i := 1) rfl))
  unfold tyf_M_on at hF
  refine lv_aload_n hx hb dX5_on_0 rfl (lv_at hl 0 rfl) ?_
  refine lv_iload_n hx hb dX5_on_1 rfl (lv_at hl 1 rfl) ?_
  refine lv_iload_n hx hb dX5_on_2 rfl (lv_at hl 2 rfl) ?_
  obtain ⟨r1, er1, hF⟩ := bR_some hF
  refine gc_Si (As := [.int p1, .int p2]) hS9 (tyc_M_isTrack l D ad cA _ σ p1 p2 r1 er1) (va_cwS 2 hts gX5_on_X5_isTrack rfl rfl rfl hd_X5_isTrack ⟨by decide, by decide⟩) hK hP hD hS hA hNN rfl hl.1 rfl (Nat.le_of_ble_eq_true rfl) dX5_on_3 (fun H locs hP hD hS => ?_)
  refine lv_if_eq (tgt := 13) hx hb dX5_on_6 (by decide) (fun c_2 => ?_) (fun c_2 => ?_)
  · have hF := iteT hF c_2
    refine lv_iconst (v := 1) hx hb dX5_on_13 (by decide) ?_
    obtain ⟨σ3, e3, hF⟩ := stp_some hF
    refine gw_put hx hb hts hiX5 tyX5 tyX5_ok nmX5 hown hK hP hD hS 0 (wM_0 ad cA σ) rfl 0 (by decide) hw0 (fun _ h9 => h9) rfl (by decide +kernel) (show 0 < 30 from by decide) (wMv_0 ad cA σ _) dX5_on_14 e3 (fun H locs hP hD hS => ?_)
    refine lv_aload_n hx hb dX5_on_17 rfl (lv_at hl 0 rfl) ?_
    refine va_get (D := D) (ci := 5) (v := .int (σ3.2 0)) (C := RX5) (T := TX5) (N := 30) hx hb hts hiX5 hown hK hP 0 (wM_0 ad cA σ3) rfl 0 (by decide) hw0 (fun _ h9 => h9) rfl dX5_on_18 ?_
    refine lv_as (y := 1) (by rw [e3]; rfl) ?_
    refine lv_if_le (tgt := 28) hx hb dX5_on_21 (by decide) (fun h9 => absurd h9 (by decide)) (fun _ => ?_)
    refine lv_iconst (v := 0) hx hb dX5_on_24 (by decide) ?_
    refine lv_goto (tgt := 38) hx hb dX5_on_25 (by decide) ?_
    exact g_iretN hx hb hr rfl hlocks hP hK hD hS dX5_on_38 hF
  · have hF := iteF hF c_2
    refine lv_iconst (v := 0) hx hb dX5_on_9 (by decide) ?_
    refine lv_goto (tgt := 14) hx hb dX5_on_10 (by decide) ?_
    obtain ⟨σ4, e4, hF⟩ := stp_some hF
    refine gw_put hx hb hts hiX5 tyX5 tyX5_ok nmX5 hown hK hP hD hS 0 (wM_0 ad cA σ) rfl 0 (by decide) hw0 (fun _ h9 => h9) rfl (by decide +kernel) (show 0 < 30 from by decide) (wMv_0 ad cA σ _) dX5_on_14 e4 (fun H locs hP hD hS => ?_)
    refine lv_aload_n hx hb dX5_on_17 rfl (lv_at hl 0 rfl) ?_
    refine va_get (D := D) (ci := 5) (v := .int (σ4.2 0)) (C := RX5) (T := TX5) (N := 30) hx hb hts hiX5 hown hK hP 0 (wM_0 ad cA σ4) rfl 0 (by decide) hw0 (fun _ h9 => h9) rfl dX5_on_18 ?_
    refine lv_as (y := 0) (by rw [e4]; rfl) ?_
    refine lv_if_le (tgt := 28) hx hb dX5_on_21 (by decide) (fun _ => ?_) (fun h9 => absurd h9 (by decide))
    refine lv_aload_n hx hb dX5_on_28 rfl (lv_at hl 0 rfl) ?_
    refine va_get (D := D) (ci := 5) (v := .ref (ad 4)) (C := RX5) (T := TX5) (N := 30) hx hb hts hiX5 hown hK hP 0 (wM_0 ad cA σ4) rfl 6 (by decide) hw2 (fun _ h9 => h9) rfl dX5_on_29 ?_
    refine lv_iconst (v := 5) hx hb dX5_on_32 (by decide) ?_
    refine lv_iload_n hx hb dX5_on_33 rfl (lv_at hl 1 rfl) ?_
    refine lv_imul hx hb dX5_on_34 ?_
    refine lv_iload_n hx hb dX5_on_35 rfl (lv_at hl 2 rfl) ?_
    refine lv_iadd hx hb dX5_on_36 ?_
    obtain ⟨hb_5, hF⟩ := chk_some hF
    refine va_iald hx hb hK hP 4 3 (wM_4 ad cA σ4) (tM_4 cA) hb_5 dX5_on_37 ?_
    exact g_iretN hx hb hr rfl hlocks hP hK hD hS dX5_on_38 hF
