set_option maxHeartbeats 4000000 in
set_option maxRecDepth 100000 in
theorem tyc_L_bookingFor (l : Launch) (D : va_G) (ad : Nat → Nat) (cA : Nat → ClassId) (sz : Nat) (σ : tyS) (p1 : Int32) (r : Int32) (hF : tyf_L_bookingFor σ p1 = some r) : gMi l yX1_bookingFor wsX1_bookingFor ({ frames := 0, cells := 0, slots := 0, locals := 0 } : Room) D (wC ad cA) (tC cA) [.ref (ad 4), .int p1] sz σ r σ := by
  refine Met.ofW (cc := cX1_bookingFor) (maxL := 2) (ret := (some .int)) (by decide) rfl ?_
  intro p e s m args below meth c s₁ B hml hv
  obtain ⟨rfl, hsz, hP, hK, hD0, hNN⟩ := hv
  have hx := B.exec
  have hb := B.bytes
  have hr := B.returns
  have hts := atoms_spec (ws := wsX1_bookingFor) B.pre
  have hown : s.vm.findClass RX1 = some m.cls := findClass_of_methodNamed B.named
  have hlocks := B.notSynchronized
  subst hsz
  have hD := hD0.self (sz := s.heap.size)
  generalize hAe : va_A (wC ad cA σ) s.heap.size = A at hD ⊢
  have hA : ∀ q : Nat, s.heap.size ≤ q → A q := fun q h => by rw [← hAe]; exact Or.inr h
  clear hAe hD0
  have hS : va_S A s.heap s.heap [] := va_S.rf
  have hl := lv_entry ([.ref (ad 4), .int p1]) (n := 2) (Nat.le_of_ble_eq_true rfl)
  rw [lg_entry_eq]
  generalize (lg_sl ([.ref (ad 4), .int p1]) ++ List.replicate (2 - (lg_sl ([.ref (ad 4), .int p1])).length) Slot.unset).toArray = ls at hl ⊢
  have hl : lv_has ls 2 [(0, .ref (ad 4)), (1, .int p1)] := hl
  have hw0 := hts (.fieldLink RX1 33 "TrunkYards$Ledger" "bookingOfWagon" "[I") (List.mem_cons_of_mem _ (List.mem_of_getElem? (i := 0) rfl))
  have hiX1 : ∀ w ∈ wsX10, w ∈ wsX1_bookingFor := fun w h => List.mem_cons_of_mem _ (List.mem_append_right _ h)
  unfold tyf_L_bookingFor at hF
  refine lv_aload_n hx hb dX1_bookingFor_0 rfl (lv_at hl 0 rfl) ?_
  refine va_get (D := D) (ci := 1) (v := .ref (ad 20)) (C := RX1) (T := TX1) (N := 9) hx hb hts hiX1 hown hK hP 4 (wC_4 ad cA σ) rfl 7 (by decide) hw0 (fun _ h9 => h9) rfl dX1_bookingFor_1 ?_
  refine lv_iload_n hx hb dX1_bookingFor_4 rfl (lv_at hl 1 rfl) ?_
  obtain ⟨hb_1, hF⟩ := chk_some hF
  refine va_iald hx hb hK hP 20 14 (wC_20 ad cA σ) (tC_20 cA) hb_1 dX1_bookingFor_5 ?_
  exact g_iretR hx hb hr rfl hlocks hP hK hD hS dX1_bookingFor_6 hF
set_option maxHeartbeats 4000000 in
set_option maxRecDepth 100000 in
theorem tyc_T_promised (l : Launch) (D : va_G) (ad : Nat → Nat) (cA : Nat → ClassId) (sz : Nat) (σ : tyS) (p1 : Int32) (res : tyX) (hl9 : l.stackTraces = false) (hF : tyf_T_promised σ p1 = some res) : gXi gStr l yX4_promised wsX4_promised ({ frames := 7, cells := 1, slots := 6, locals := 103 } : Room) D (wC ad cA) (tC cA) [.ref (ad 0), .int p1] sz σ res := by
  refine ty_ofW (cc := cX4_promised) (maxL := 2) (ret := (some .int)) (by decide) rfl ?_
  intro p e s m args below meth c s₁ B hml ht9 hv
  obtain ⟨rfl, ⟨hsz, hP, hK, hD0, hNN⟩, hOK⟩ := hv
  have hx := B.exec
  have hb := B.bytes
  have hr := B.returns
  have hts := atoms_spec (ws := wsX4_promised) B.pre
  have hown : s.vm.findClass RX4 = some m.cls := findClass_of_methodNamed B.named
  have hlocks := B.notSynchronized
  subst hsz
  have hD := hD0.self (sz := s.heap.size)
  generalize hAe : va_A (wC ad cA σ) s.heap.size = A at hD hOK ⊢
  have hA : ∀ q : Nat, s.heap.size ≤ q → A q := fun q h => by rw [← hAe]; exact Or.inr h
  clear hAe hD0
  have hS : va_S A s.heap s.heap [] := va_S.rf
  have hl := lv_entry ([.ref (ad 0), .int p1]) (n := 2) (Nat.le_of_ble_eq_true rfl)
  rw [lg_entry_eq]
  generalize (lg_sl ([.ref (ad 0), .int p1]) ++ List.replicate (2 - (lg_sl ([.ref (ad 0), .int p1])).length) Slot.unset).toArray = ls at hl ⊢
  have hl : lv_has ls 2 [(0, .ref (ad 0)), (1, .int p1)] := hl
  have hS9 : CallFix p m c cX4_promised 2 s _ wsX4_promised RX4 := ⟨hx, hb, hml, hown, hts⟩
  have hw0 := hts (.fieldLink RX4 29 "TrunkYards" "ledger" "LTrunkYards$Ledger;") (List.mem_cons_of_mem _ (List.mem_of_getElem? (i := 0) rfl))
  have hiX4 : ∀ w ∈ wsX40, w ∈ wsX4_promised := fun w h => List.mem_cons_of_mem _ (List.mem_append_left _ (List.mem_append_left _ (List.mem_append_right _ h)))
  unfold tyf_T_promised at hF
  refine lv_aload_n hx hb dX4_promised_0 rfl (lv_at hl 0 rfl) ?_
  refine lv_iload_n hx hb dX4_promised_1 rfl (lv_at hl 1 rfl) ?_
  rcases bX_some hF with ⟨kr2, r2, σ1, er2, hF⟩ | ⟨r2, σ1, er2, hF⟩
  · exact gx_T (gx_runV (As := [.int p1]) (Qc := gQXv D (wC ad cA) (tC cA) _ _) hS9 (tyc_T_requireWagon l D ad cA _ σ p1 _ hl9 er2) (cwV 1 hts gX4_promised_X4_requireWagon rfl rfl rfl hd_X4_requireWagon ⟨by decide, by decide⟩) hOK hK hP hD hS hA hNN (ci := 4) (q0 := 0) (N := 12) rfl (wC_0 ad cA σ) rfl hl.1 rfl (Nat.le_of_ble_eq_true rfl) dX4_promised_2 ⟨by decide, by decide⟩) (gx_nov rfl) rfl hF ht9 hlocks hK hD hS hA
  refine gx_Rv (rest2 := (.ref (ad 0) :: [.int p1])) (gx_runV (As := [.int p1]) (Qc := gQXv D (wC ad cA) (tC cA) _ _) hS9 (tyc_T_requireWagon l D ad cA _ σ p1 _ hl9 er2) (cwV 1 hts gX4_promised_X4_requireWagon rfl rfl rfl hd_X4_requireWagon ⟨by decide, by decide⟩) hOK hK hP hD hS hA hNN (ci := 4) (q0 := 0) (N := 12) rfl (wC_0 ad cA σ) rfl hl.1 rfl (Nat.le_of_ble_eq_true rfl) dX4_promised_2 ⟨by decide, by decide⟩) rfl hK hD hS hA (fun H locs hP hD hS => ?_)
  refine lv_aload_n hx hb dX4_promised_5 rfl (lv_at hl 0 rfl) ?_
  refine va_get (D := D) (ci := 4) (v := .ref (ad 4)) (C := RX4) (T := TX4) (N := 12) hx hb hts hiX4 hown hK hP 0 (wC_0 ad cA σ1) rfl 3 (by decide) hw0 (fun _ h9 => h9) rfl dX4_promised_6 ?_
  refine lv_iload_n hx hb dX4_promised_9 rfl (lv_at hl 1 rfl) ?_
  obtain ⟨r3, er3, hF⟩ := bR_some hF
  refine gc_Vi (As := [.int p1]) hS9 (tyc_L_bookingFor l D ad cA _ σ1 p1 r3 er3) (cwV 1 hts gX4_promised_X1_bookingFor rfl rfl rfl hd_X1_bookingFor ⟨by decide, by decide⟩) hK hP hD hS hA hNN (ci := 1) (q0 := 4) (N := 9) rfl (wC_4 ad cA σ1) rfl hl.1 rfl (Nat.le_of_ble_eq_true rfl) dX4_promised_10 (fun H locs hP hD hS => ?_)
  exact g_iretX hx hb hr rfl hlocks hP hK hD hS dX4_promised_13 hF
set_option maxHeartbeats 4000000 in
set_option maxRecDepth 100000 in
theorem tyc_T_requireCustomer (l : Launch) (D : va_G) (ad : Nat → Nat) (cA : Nat → ClassId) (sz : Nat) (σ : tyS) (p0 : Int32) (res : tyX) (hl9 : l.stackTraces = false) (hF : tyf_T_requireCustomer σ p0 = some res) : gXv gStr l yX4_requireCustomer wsX4_requireCustomer ({ frames := 6, cells := 1, slots := 6, locals := 82 } : Room) D (wC ad cA) (tC cA) [.int p0] sz σ res := by
  refine ty_ofW (cc := cX4_requireCustomer) (maxL := 1) (ret := none) (by decide) rfl ?_
  intro p e s m args below meth c s₁ B hml ht9 hv
  obtain ⟨rfl, ⟨hsz, hP, hK, hD0, hNN⟩, hOK⟩ := hv
  have hx := B.exec
  have hb := B.bytes
  have hr := B.returns
  have hts := atoms_spec (ws := wsX4_requireCustomer) B.pre
  have hown : s.vm.findClass RX4 = some m.cls := findClass_of_methodNamed B.named
  have hlocks := B.notSynchronized
  subst hsz
  have hD := hD0.self (sz := s.heap.size)
  generalize hAe : va_A (wC ad cA σ) s.heap.size = A at hD hOK ⊢
  have hA : ∀ q : Nat, s.heap.size ≤ q → A q := fun q h => by rw [← hAe]; exact Or.inr h
  clear hAe hD0
  have hS : va_S A s.heap s.heap [] := va_S.rf
  have hl := lv_entry ([.int p0]) (n := 1) (Nat.le_of_ble_eq_true rfl)
  rw [lg_entry_eq]
  generalize (lg_sl ([.int p0]) ++ List.replicate (1 - (lg_sl ([.int p0])).length) Slot.unset).toArray = ls at hl ⊢
  have hl : lv_has ls 1 [(0, .int p0)] := hl
  have hw0 := hts (.classLink RX4 86 "java/lang/IllegalArgumentException") (List.mem_cons_of_mem _ (List.mem_of_getElem? (i := 0) rfl))
  have hw1 := hts (.initialized "java/lang/IllegalArgumentException") (List.mem_cons_of_mem _ (List.mem_of_getElem? (i := 1) rfl))
  unfold tyf_T_requireCustomer at hF
  refine lv_iload_n hx hb dX4_requireCustomer_0 rfl (lv_at hl 0 rfl) ?_
  refine lv_if_lt (tgt := 10) hx hb dX4_requireCustomer_1 (by decide) (fun c_1 => ?_) (fun c_1 => ?_)
  · have hF := iteT hF c_1
    exact gx_throwSW (own := RX4) (cls := "java/lang/IllegalArgumentException") (text := "customer is out of range") (k := 0) hx hb hl9 hown rfl (by decide +kernel) hw0 hw1 (fun w h => hts w (List.mem_cons_of_mem _ (List.mem_append_right _ h))) gnoX4_90 ggdX4_86_90 hOK (List.mem_of_getElem? (i := 26) rfl) (by rw [hml]; exact hl.1) ht9 hlocks hP hK hD hS dX4_requireCustomer_10 dX4_requireCustomer_13 dX4_requireCustomer_14 dX4_requireCustomer_17 dX4_requireCustomer_20 ⟨by decide, by decide, by decide, by decide⟩ hF
  · have hF := iteF hF c_1
    refine lv_iload_n hx hb dX4_requireCustomer_4 rfl (lv_at hl 0 rfl) ?_
    refine lv_bipush (v := 6) hx hb dX4_requireCustomer_5 (by decide) ?_
    refine lv_icmp_lt (tgt := 21) hx hb dX4_requireCustomer_7 (by decide) (fun c_2 => ?_) (fun c_2 => ?_)
    · have hF := iteT hF c_2
      exact g_vretX hx hb hr hlocks hP hK hD hS dX4_requireCustomer_21 hF
    · have hF := iteF hF c_2
      exact gx_throwSW (own := RX4) (cls := "java/lang/IllegalArgumentException") (text := "customer is out of range") (k := 0) hx hb hl9 hown rfl (by decide +kernel) hw0 hw1 (fun w h => hts w (List.mem_cons_of_mem _ (List.mem_append_right _ h))) gnoX4_90 ggdX4_86_90 hOK (List.mem_of_getElem? (i := 26) rfl) (by rw [hml]; exact hl.1) ht9 hlocks hP hK hD hS dX4_requireCustomer_10 dX4_requireCustomer_13 dX4_requireCustomer_14 dX4_requireCustomer_17 dX4_requireCustomer_20 ⟨by decide, by decide, by decide, by decide⟩ hF
set_option maxHeartbeats 4000000 in
set_option maxRecDepth 100000 in
theorem tyc_B_ongoing (l : Launch) (D : va_G) (ad : Nat → Nat) (cA : Nat → ClassId) (sz : Nat) (σ : tyS) (p1 : Int32) (r : Int32) (hF : tyf_B_ongoing σ p1 = some r) : gMi l yX3_ongoing wsX3_ongoing ({ frames := 0, cells := 0, slots := 0, locals := 0 } : Room) D (wC ad cA) (tC cA) [.ref (ad 5), .int p1] sz σ r σ := by
  refine Met.ofW (cc := cX3_ongoing) (maxL := 2) (ret := (some .int)) (by decide) rfl ?_
  intro p e s m args below meth c s₁ B hml hv
  obtain ⟨rfl, hsz, hP, hK, hD0, hNN⟩ := hv
  have hx := B.exec
  have hb := B.bytes
  have hr := B.returns
  have hts := atoms_spec (ws := wsX3_ongoing) B.pre
  have hown : s.vm.findClass RX3 = some m.cls := findClass_of_methodNamed B.named
  have hlocks := B.notSynchronized
  subst hsz
  have hD := hD0.self (sz := s.heap.size)
  generalize hAe : va_A (wC ad cA σ) s.heap.size = A at hD ⊢
  have hA : ∀ q : Nat, s.heap.size ≤ q → A q := fun q h => by rw [← hAe]; exact Or.inr h
  clear hAe hD0
  have hS : va_S A s.heap s.heap [] := va_S.rf
  have hl := lv_entry ([.ref (ad 5), .int p1]) (n := 2) (Nat.le_of_ble_eq_true rfl)
  rw [lg_entry_eq]
  generalize (lg_sl ([.ref (ad 5), .int p1]) ++ List.replicate (2 - (lg_sl ([.ref (ad 5), .int p1])).length) Slot.unset).toArray = ls at hl ⊢
  have hl : lv_has ls 2 [(0, .ref (ad 5)), (1, .int p1)] := hl
  have hw0 := hts (.fieldLink RX3 27 "TrunkYards$Switchboard" "ongoingCalls" "[I") (List.mem_cons_of_mem _ (List.mem_of_getElem? (i := 0) rfl))
  have hiX3 : ∀ w ∈ wsX30, w ∈ wsX3_ongoing := fun w h => List.mem_cons_of_mem _ (List.mem_append_right _ h)
  unfold tyf_B_ongoing at hF
  refine lv_aload_n hx hb dX3_ongoing_0 rfl (lv_at hl 0 rfl) ?_
  refine va_get (D := D) (ci := 3) (v := .ref (ad 26)) (C := RX3) (T := TX3) (N := 9) hx hb hts hiX3 hown hK hP 5 (wC_5 ad cA σ) rfl 5 (by decide) hw0 (fun _ h9 => h9) rfl dX3_ongoing_1 ?_
  refine lv_iload_n hx hb dX3_ongoing_4 rfl (lv_at hl 1 rfl) ?_
  obtain ⟨hb_1, hF⟩ := chk_some hF
  refine va_iald hx hb hK hP 26 20 (wC_26 ad cA σ) (tC_26 cA) hb_1 dX3_ongoing_5 ?_
  exact g_iretR hx hb hr rfl hlocks hP hK hD hS dX3_ongoing_6 hF
set_option maxHeartbeats 4000000 in
set_option maxRecDepth 100000 in
theorem tyc_B_isFull (l : Launch) (D : va_G) (ad : Nat → Nat) (cA : Nat → ClassId) (sz : Nat) (σ : tyS) (r : Int32) (hF : tyf_B_isFull σ  = some r) : gMi l yX3_isFull wsX3_isFull ({ frames := 0, cells := 0, slots := 0, locals := 0 } : Room) D (wC ad cA) (tC cA) [.ref (ad 5)] sz σ r σ := by
  refine Met.ofW (cc := cX3_isFull) (maxL := 1) (ret := (some .boolean)) (by decide) rfl ?_
  intro p e s m args below meth c s₁ B hml hv
  obtain ⟨rfl, hsz, hP, hK, hD0, hNN⟩ := hv
  have hx := B.exec
  have hb := B.bytes
  have hr := B.returns
  have hts := atoms_spec (ws := wsX3_isFull) B.pre
  have hown : s.vm.findClass RX3 = some m.cls := findClass_of_methodNamed B.named
  have hlocks := B.notSynchronized
  subst hsz
  have hD := hD0.self (sz := s.heap.size)
  generalize hAe : va_A (wC ad cA σ) s.heap.size = A at hD ⊢
  have hA : ∀ q : Nat, s.heap.size ≤ q → A q := fun q h => by rw [← hAe]; exact Or.inr h
  clear hAe hD0
  have hS : va_S A s.heap s.heap [] := va_S.rf
  have hl := lv_entry ([.ref (ad 5)]) (n := 1) (Nat.le_of_ble_eq_true rfl)
  rw [lg_entry_eq]
  generalize (lg_sl ([.ref (ad 5)]) ++ List.replicate (1 - (lg_sl ([.ref (ad 5)])).length) Slot.unset).toArray = ls at hl ⊢
  have hl : lv_has ls 1 [(0, .ref (ad 5))] := hl
  have hw0 := hts (.fieldLink RX3 42 "TrunkYards$Switchboard" "begun" "I") (List.mem_cons_of_mem _ (List.mem_of_getElem? (i := 0) rfl))
  have hiX3 : ∀ w ∈ wsX30, w ∈ wsX3_isFull := fun w h => List.mem_cons_of_mem _ (List.mem_append_right _ h)
  unfold tyf_B_isFull at hF
  refine lv_aload_n hx hb dX3_isFull_0 rfl (lv_at hl 0 rfl) ?_
  refine va_get (D := D) (ci := 3) (v := .int (σ.2 6)) (C := RX3) (T := TX3) (N := 9) hx hb hts hiX3 hown hK hP 5 (wC_5 ad cA σ) rfl 8 (by decide) hw0 (fun _ h9 => h9) rfl dX3_isFull_1 ?_
  refine lv_bipush (v := 60) hx hb dX3_isFull_4 (by decide) ?_
  refine lv_icmp_lt (tgt := 13) hx hb dX3_isFull_6 (by decide) (fun c_1 => ?_) (fun c_1 => ?_)
  · have hF := iteT hF c_1
    refine lv_iconst (v := 0) hx hb dX3_isFull_13 (by decide) ?_
    exact g_iretR hx hb hr rfl hlocks hP hK hD hS dX3_isFull_14 hF
  · have hF := iteF hF c_1
    refine lv_iconst (v := 1) hx hb dX3_isFull_9 (by decide) ?_
    refine lv_goto (tgt := 14) hx hb dX3_isFull_10 (by decide) ?_
    exact g_iretR hx hb hr rfl hlocks hP hK hD hS dX3_isFull_14 hF
set_option maxHeartbeats 4000000 in
set_option maxRecDepth 100000 in
theorem tyc_B_callsTo (l : Launch) (D : va_G) (ad : Nat → Nat) (cA : Nat → ClassId) (sz : Nat) (σ : tyS) (p1 : Int32) (r : Int32) (hF : tyf_B_callsTo σ p1 = some r) : gMi l yX3_callsTo wsX3_callsTo ({ frames := 0, cells := 0, slots := 0, locals := 0 } : Room) D (wC ad cA) (tC cA) [.ref (ad 5), .int p1] sz σ r σ := by
  refine Met.ofW (cc := cX3_callsTo) (maxL := 5) (ret := (some .int)) (by decide) rfl ?_
  intro p e s m args below meth c s₁ B hml hv
  obtain ⟨rfl, hsz, hP, hK, hD0, hNN⟩ := hv
  have hx := B.exec
  have hb := B.bytes
  have hr := B.returns
  have hts := atoms_spec (ws := wsX3_callsTo) B.pre
  have hown : s.vm.findClass RX3 = some m.cls := findClass_of_methodNamed B.named
  have hlocks := B.notSynchronized
  subst hsz
  have hD := hD0.self (sz := s.heap.size)
  generalize hAe : va_A (wC ad cA σ) s.heap.size = A at hD ⊢
  have hA : ∀ q : Nat, s.heap.size ≤ q → A q := fun q h => by rw [← hAe]; exact Or.inr h
  clear hAe hD0
  have hS : va_S A s.heap s.heap [] := va_S.rf
  have hl := lv_entry ([.ref (ad 5), .int p1]) (n := 5) (Nat.le_of_ble_eq_true rfl)
  rw [lg_entry_eq]
  generalize (lg_sl ([.ref (ad 5), .int p1]) ++ List.replicate (5 - (lg_sl ([.ref (ad 5), .int p1])).length) Slot.unset).toArray = ls at hl ⊢
  have hl : lv_has ls 5 [(0, .ref (ad 5)), (1, .int p1)] := hl
  have hw0 := hts (.fieldLink RX3 27 "TrunkYards$Switchboard" "ongoingCalls" "[I") (List.mem_cons_of_mem _ (List.mem_of_getElem? (i := 0) rfl))
  have hiX3 : ∀ w ∈ wsX30, w ∈ wsX3_callsTo := fun w h => List.mem_cons_of_mem _ (List.mem_append_right _ h)
  have hw2 := hts (.fieldLink RX3 15 "TrunkYards$Switchboard" "yards" "[I") (List.mem_cons_of_mem _ (List.mem_of_getElem? (i := 1) rfl))
  unfold tyf_B_callsTo at hF
  refine lv_iconst (v := 0) hx hb dX3_callsTo_0 (by decide) ?_
  refine lv_istore_n (lv' := [(2, .int 0), (0, .ref (ad 5)), (1, .int p1)]) hx hb dX3_callsTo_1 rfl hl (by decide) rfl (fun ls hl => ?_)
  refine lv_iconst (v := 0) hx hb dX3_callsTo_2 (by decide) ?_
  refine lv_istore_n (lv' := [(3, .int 0), (2, .int 0), (0, .ref (ad 5)), (1, .int p1)]) hx hb dX3_callsTo_3 rfl hl (by decide) rfl (fun ls hl => ?_)
  have lp4 : ∀ (k : Int32 → Int32 → Int32 → Option Int32), (∀ (x1 : Int32) (x2 : Int32) (x3 : Int32) , k x1 x2 x3 = some r → ∀ (H : Heap) (locs : List Loc) (ls : Array Slot), va_P D vwCl (wC ad cA σ) H → va_D A (wC ad cA σ) → va_S A s.heap H locs → lv_has ls 5 [(0, .ref (ad 5)), (1, .int x1), (2, .int x2), (3, .int x3)] → W p l e (headSpec wsX3_callsTo ({ frames := 0, cells := 0, slots := 0, locals := 0 } : Room)).room s m #[.ref (ad 5), .int p1] below meth c H locs 0 0 (MQ below (gQi D (wC ad cA) (tC cA) A r σ) #[.ref (ad 5), .int p1] s 0 0 A) (F0 m 44 ls [])) → ∀ (n : Nat), ∀ (x1 : Int32) (x2 : Int32) (x3 : Int32) , tyl_B_callsTo_4 σ k n x1 x2 x3 = some r → ∀ (H : Heap) (locs : List Loc) (ls : Array Slot), va_P D vwCl (wC ad cA σ) H → va_D A (wC ad cA σ) → va_S A s.heap H locs → lv_has ls 5 [(0, .ref (ad 5)), (1, .int x1), (2, .int x2), (3, .int x3)] → W p l e (headSpec wsX3_callsTo ({ frames := 0, cells := 0, slots := 0, locals := 0 } : Room)).room s m #[.ref (ad 5), .int p1] below meth c H locs 0 0 (MQ below (gQi D (wC ad cA) (tC cA) A r σ) #[.ref (ad 5), .int p1] s 0 0 A) (F0 m 4 ls []) := by
    intro k hk n
    induction n with
    | zero =>
      intro x1 x2 x3 hF
      exact absurd hF (fun h => nomatch h)
    | succ n ih =>
      intro x1 x2 x3 hF H locs ls hP hD hS hl
      have hF : tyb_B_callsTo_4 σ k (tyl_B_callsTo_4 σ k n) x1 x2 x3 = some r := hF
      unfold tyb_B_callsTo_4 at hF
      refine lv_iload_n hx hb dX3_callsTo_4 rfl (lv_at hl 3 rfl) ?_
      refine lv_bipush (v := 6) hx hb dX3_callsTo_5 (by decide) ?_
      refine lv_icmp_ge (tgt := 44) hx hb dX3_callsTo_7 (by decide) (fun c_1 => ?_) (fun c_1 => ?_)
      · have hF := iteT hF c_1
        exact hk  x1 x2 x3 hF _ _ _ hP hD hS (lv_sub hl [0, 1, 2, 3] rfl)
      · have hF := iteF hF c_1
        refine lv_aload_n hx hb dX3_callsTo_10 rfl (lv_at hl 0 rfl) ?_
        refine va_get (D := D) (ci := 3) (v := .ref (ad 26)) (C := RX3) (T := TX3) (N := 9) hx hb hts hiX3 hown hK hP 5 (wC_5 ad cA σ) rfl 5 (by decide) hw0 (fun _ h9 => h9) rfl dX3_callsTo_11 ?_
        refine lv_iload_n hx hb dX3_callsTo_14 rfl (lv_at hl 3 rfl) ?_
        obtain ⟨hb_2, hF⟩ := chk_some hF
        refine va_iald hx hb hK hP 26 20 (wC_26 ad cA σ) (tC_26 cA) hb_2 dX3_callsTo_15 ?_
        refine lv_istore (lv' := [(4, .int (σ.1 26 (x3).toNatClampNeg)), (0, .ref (ad 5)), (1, .int x1), (2, .int x2), (3, .int x3)]) hx hb dX3_callsTo_16 hl (by decide) rfl (fun ls hl => ?_)
        refine lv_iload hx hb dX3_callsTo_18 (lv_at hl 0 rfl) ?_
        refine lv_iconst (v := (-1)) hx hb dX3_callsTo_20 (by decide) ?_
        refine lv_icmp_eq (tgt := 38) hx hb dX3_callsTo_21 (by decide) (fun c_3 => ?_) (fun c_3 => ?_)
        · have hF := iteT hF c_3
          refine lv_iinc (v := (x3 + 1)) (lv' := [(3, .int (x3 + 1)), (4, .int (σ.1 26 (x3).toNatClampNeg)), (0, .ref (ad 5)), (1, .int x1), (2, .int x2)]) hx hb dX3_callsTo_38 hl (k := 4) rfl rfl (by decide) rfl (fun ls hl => ?_)
          refine lv_goto (tgt := 4) hx hb dX3_callsTo_41 (by decide) ?_
          exact ih  x1 x2 (x3 + 1) hF _ _ _ hP hD hS (lv_sub hl [2, 3, 4, 0] rfl)
        · have hF := iteF hF c_3
          refine lv_aload_n hx hb dX3_callsTo_24 rfl (lv_at hl 1 rfl) ?_
          refine va_get (D := D) (ci := 3) (v := .ref (ad 22)) (C := RX3) (T := TX3) (N := 9) hx hb hts hiX3 hown hK hP 5 (wC_5 ad cA σ) rfl 1 (by decide) hw2 (fun _ h9 => h9) rfl dX3_callsTo_25 ?_
          refine lv_iload hx hb dX3_callsTo_28 (lv_at hl 0 rfl) ?_
          obtain ⟨hb_4, hF⟩ := chk_some hF
          refine va_iald hx hb hK hP 22 16 (wC_22 ad cA σ) (tC_22 cA) hb_4 dX3_callsTo_30 ?_
          refine lv_iload_n hx hb dX3_callsTo_31 rfl (lv_at hl 2 rfl) ?_
          refine lv_icmp_ne (tgt := 38) hx hb dX3_callsTo_32 (by decide) (fun c_5 => ?_) (fun c_5 => ?_)
          · have hF := iteF hF c_5
            refine lv_iinc (v := (x3 + 1)) (lv' := [(3, .int (x3 + 1)), (4, .int (σ.1 26 (x3).toNatClampNeg)), (0, .ref (ad 5)), (1, .int x1), (2, .int x2)]) hx hb dX3_callsTo_38 hl (k := 4) rfl rfl (by decide) rfl (fun ls hl => ?_)
            refine lv_goto (tgt := 4) hx hb dX3_callsTo_41 (by decide) ?_
            exact ih  x1 x2 (x3 + 1) hF _ _ _ hP hD hS (lv_sub hl [2, 3, 4, 0] rfl)
          · have hF := iteT hF c_5
            refine lv_iinc (v := (x2 + 1)) (lv' := [(2, .int (x2 + 1)), (4, .int (σ.1 26 (x3).toNatClampNeg)), (0, .ref (ad 5)), (1, .int x1), (3, .int x3)]) hx hb dX3_callsTo_35 hl (k := 3) rfl rfl (by decide) rfl (fun ls hl => ?_)
            refine lv_iinc (v := (x3 + 1)) (lv' := [(3, .int (x3 + 1)), (2, .int (x2 + 1)), (4, .int (σ.1 26 (x3).toNatClampNeg)), (0, .ref (ad 5)), (1, .int x1)]) hx hb dX3_callsTo_38 hl (k := 4) rfl rfl (by decide) rfl (fun ls hl => ?_)
            refine lv_goto (tgt := 4) hx hb dX3_callsTo_41 (by decide) ?_
            exact ih  x1 (x2 + 1) (x3 + 1) hF _ _ _ hP hD hS (lv_sub hl [3, 4, 1, 0] rfl)
  refine lp4 _ ?_ 64  p1 0 0 hF _ _ _ hP hD hS (lv_sub hl [2, 3, 1, 0] rfl)
  intro x1 x2 x3 hF H locs ls hP hD hS hl
  refine lv_iload_n hx hb dX3_callsTo_44 rfl (lv_at hl 2 rfl) ?_
  exact g_iretR hx hb hr rfl hlocks hP hK hD hS dX3_callsTo_45 hF
set_option maxHeartbeats 4000000 in
set_option maxRecDepth 100000 in
theorem tyc_T_slotOf (l : Launch) (D : va_G) (ad : Nat → Nat) (cA : Nat → ClassId) (sz : Nat) (σ : tyS) (p0 : Int32) (p1 : Int32) (p2 : Int32) (r : Int32) (hF : tyf_T_slotOf σ p0 p1 p2 = some r) : gMi l yX4_slotOf wsX4_slotOf ({ frames := 0, cells := 0, slots := 0, locals := 0 } : Room) D (wC ad cA) (tC cA) [.int p0, .int p1, .int p2] sz σ r σ := by
  refine Met.ofW (cc := cX4_slotOf) (maxL := 3) (ret := (some .int)) (by decide) rfl ?_
  intro p e s m args below meth c s₁ B hml hv
  obtain ⟨rfl, hsz, hP, hK, hD0, hNN⟩ := hv
  have hx := B.exec
  have hb := B.bytes
  have hr := B.returns
  have hts := atoms_spec (ws := wsX4_slotOf) B.pre
  have hown : s.vm.findClass RX4 = some m.cls := findClass_of_methodNamed B.named
  have hlocks := B.notSynchronized
  subst hsz
  have hD := hD0.self (sz := s.heap.size)
  generalize hAe : va_A (wC ad cA σ) s.heap.size = A at hD ⊢
  have hA : ∀ q : Nat, s.heap.size ≤ q → A q := fun q h => by rw [← hAe]; exact Or.inr h
  clear hAe hD0
  have hS : va_S A s.heap s.heap [] := va_S.rf
  have hl := lv_entry ([.int p0, .int p1, .int p2]) (n := 3) (Nat.le_of_ble_eq_true rfl)
  rw [lg_entry_eq]
  generalize (lg_sl ([.int p0, .int p1, .int p2]) ++ List.replicate (3 - (lg_sl ([.int p0, .int p1, .int p2])).length) Slot.unset).toArray = ls at hl ⊢
  have hl : lv_has ls 3 [(0, .int p0), (1, .int p1), (2, .int p2)] := hl
  unfold tyf_T_slotOf at hF
  refine lv_iload_n hx hb dX4_slotOf_0 rfl (lv_at hl 0 rfl) ?_
  refine lv_iload_n hx hb dX4_slotOf_1 rfl (lv_at hl 1 rfl) ?_
  refine lv_iadd hx hb dX4_slotOf_2 ?_
  refine lv_iconst (v := 1) hx hb dX4_slotOf_3 (by decide) ?_
  refine lv_isub hx hb dX4_slotOf_4 ?_
  refine lv_iconst (v := 2) hx hb dX4_slotOf_5 (by decide) ?_
  refine lv_imul hx hb dX4_slotOf_6 ?_
  refine lv_iload_n hx hb dX4_slotOf_7 rfl (lv_at hl 2 rfl) ?_
  refine lv_iadd hx hb dX4_slotOf_8 ?_
  exact g_iretR hx hb hr rfl hlocks hP hK hD hS dX4_slotOf_9 hF
set_option maxHeartbeats 4000000 in
set_option maxRecDepth 100000 in
theorem tyc_B_freeTrunk (l : Launch) (D : va_G) (ad : Nat → Nat) (cA : Nat → ClassId) (sz : Nat) (σ : tyS) (p1 : Int32) (p2 : Int32) (r : Int32) (hF : tyf_B_freeTrunk σ p1 p2 = some r) : gMi l yX3_freeTrunk wsX3_freeTrunk ({ frames := 1, cells := 0, slots := 0, locals := 22 } : Room) D (wC ad cA) (tC cA) [.ref (ad 5), .int p1, .int p2] sz σ r σ := by
  refine Met.ofW (cc := cX3_freeTrunk) (maxL := 5) (ret := (some .int)) (by decide) rfl ?_
  intro p e s m args below meth c s₁ B hml hv
  obtain ⟨rfl, hsz, hP, hK, hD0, hNN⟩ := hv
  have hx := B.exec
  have hb := B.bytes
  have hr := B.returns
  have hts := atoms_spec (ws := wsX3_freeTrunk) B.pre
  have hown : s.vm.findClass RX3 = some m.cls := findClass_of_methodNamed B.named
  have hlocks := B.notSynchronized
  subst hsz
  have hD := hD0.self (sz := s.heap.size)
  generalize hAe : va_A (wC ad cA σ) s.heap.size = A at hD ⊢
  have hA : ∀ q : Nat, s.heap.size ≤ q → A q := fun q h => by rw [← hAe]; exact Or.inr h
  clear hAe hD0
  have hS : va_S A s.heap s.heap [] := va_S.rf
  have hl := lv_entry ([.ref (ad 5), .int p1, .int p2]) (n := 5) (Nat.le_of_ble_eq_true rfl)
  rw [lg_entry_eq]
  generalize (lg_sl ([.ref (ad 5), .int p1, .int p2]) ++ List.replicate (5 - (lg_sl ([.ref (ad 5), .int p1, .int p2])).length) Slot.unset).toArray = ls at hl ⊢
  have hl : lv_has ls 5 [(0, .ref (ad 5)), (1, .int p1), (2, .int p2)] := hl
  have hS9 : CallFix p m c cX3_freeTrunk 5 s _ wsX3_freeTrunk RX3 := ⟨hx, hb, hml, hown, hts⟩
  have hw0 := hts (.static yX4_slotOf) (List.mem_cons_of_mem _ (List.mem_of_getElem? (i := 1) rfl))
  have hw1 := hts (.initialized RX4) (List.mem_cons_of_mem _ (List.mem_of_getElem? (i := 2) rfl))
  have hw2 := hts (.fieldLink RX3 30 "TrunkYards$Switchboard" "trunks" "[I") (List.mem_cons_of_mem _ (List.mem_of_getElem? (i := 0) rfl))
  have hiX3 : ∀ w ∈ wsX30, w ∈ wsX3_freeTrunk := fun w h => List.mem_cons_of_mem _ (List.mem_append_right _ h)
  unfold tyf_B_freeTrunk at hF
  refine lv_iconst (v := 0) hx hb dX3_freeTrunk_0 (by decide) ?_
  refine lv_istore_n (lv' := [(3, .int 0), (0, .ref (ad 5)), (1, .int p1), (2, .int p2)]) hx hb dX3_freeTrunk_1 rfl hl (by decide) rfl (fun ls hl => ?_)
  have lp2 : ∀ (k : Int32 → Int32 → Int32 → Option Int32), (∀ (x1 : Int32) (x2 : Int32) (x3 : Int32) , k x1 x2 x3 = some r → ∀ (H : Heap) (locs : List Loc) (ls : Array Slot), va_P D vwCl (wC ad cA σ) H → va_D A (wC ad cA σ) → va_S A s.heap H locs → lv_has ls 5 [(0, .ref (ad 5)), (1, .int x1), (2, .int x2), (3, .int x3)] → W p l e (headSpec wsX3_freeTrunk ({ frames := 1, cells := 0, slots := 0, locals := 22 } : Room)).room s m #[.ref (ad 5), .int p1, .int p2] below meth c H locs 0 0 (MQ below (gQi D (wC ad cA) (tC cA) A r σ) #[.ref (ad 5), .int p1, .int p2] s 0 0 A) (F0 m 35 ls [])) → ∀ (n : Nat), ∀ (x1 : Int32) (x2 : Int32) (x3 : Int32) , tyl_B_freeTrunk_2 σ k n x1 x2 x3 = some r → ∀ (H : Heap) (locs : List Loc) (ls : Array Slot), va_P D vwCl (wC ad cA σ) H → va_D A (wC ad cA σ) → va_S A s.heap H locs → lv_has ls 5 [(0, .ref (ad 5)), (1, .int x1), (2, .int x2), (3, .int x3)] → W p l e (headSpec wsX3_freeTrunk ({ frames := 1, cells := 0, slots := 0, locals := 22 } : Room)).room s m #[.ref (ad 5), .int p1, .int p2] below meth c H locs 0 0 (MQ below (gQi D (wC ad cA) (tC cA) A r σ) #[.ref (ad 5), .int p1, .int p2] s 0 0 A) (F0 m 2 ls []) := by
    intro k hk n
    induction n with
    | zero =>
      intro x1 x2 x3 hF
      exact absurd hF (fun h => nomatch h)
    | succ n ih =>
      intro x1 x2 x3 hF H locs ls hP hD hS hl
      have hF : tyb_B_freeTrunk_2 σ k (tyl_B_freeTrunk_2 σ k n) x1 x2 x3 = some r := hF
      unfold tyb_B_freeTrunk_2 at hF
      refine lv_iload_n hx hb dX3_freeTrunk_2 rfl (lv_at hl 3 rfl) ?_
      refine lv_iconst (v := 2) hx hb dX3_freeTrunk_3 (by decide) ?_
      refine lv_icmp_ge (tgt := 35) hx hb dX3_freeTrunk_4 (by decide) (fun c_1 => ?_) (fun c_1 => ?_)
      · have hF := iteT hF c_1
        exact hk  x1 x2 x3 hF _ _ _ hP hD hS (lv_sub hl [0, 1, 2, 3] rfl)
      · have hF := iteF hF c_1
        refine lv_iload_n hx hb dX3_freeTrunk_7 rfl (lv_at hl 1 rfl) ?_
        refine lv_iload_n hx hb dX3_freeTrunk_8 rfl (lv_at hl 2 rfl) ?_
        refine lv_iload_n hx hb dX3_freeTrunk_9 rfl (lv_at hl 3 rfl) ?_
        obtain ⟨r2, er2, hF⟩ := bR_some hF
        refine gc_SNi (As := [.int x1, .int x2, .int x3]) hS9 (tyc_T_slotOf l D ad cA _ σ x1 x2 x3 r2 er2) ⟨va_cnB (host := RX4) 3 hts gX3_freeTrunk_X4_slotOf_n62 rfl rfl rfl (hNN _ (List.mem_of_getElem? (i := 2) rfl)) hw1 hd_X4_slotOf ⟨by decide, by decide⟩, hw0, trivial⟩ hK hP hD hS hA hNN rfl hl.1 rfl (Nat.le_of_ble_eq_true rfl) dX3_freeTrunk_10 (fun H locs hP hD hS => ?_)
        refine lv_istore (lv' := [(4, .int r2), (0, .ref (ad 5)), (1, .int x1), (2, .int x2), (3, .int x3)]) hx hb dX3_freeTrunk_13 hl (by decide) rfl (fun ls hl => ?_)
        refine lv_aload_n hx hb dX3_freeTrunk_15 rfl (lv_at hl 1 rfl) ?_
        refine va_get (D := D) (ci := 3) (v := .ref (ad 27)) (C := RX3) (T := TX3) (N := 9) hx hb hts hiX3 hown hK hP 5 (wC_5 ad cA σ) rfl 6 (by decide) hw2 (fun _ h9 => h9) rfl dX3_freeTrunk_16 ?_
        refine lv_iload hx hb dX3_freeTrunk_19 (lv_at hl 0 rfl) ?_
        obtain ⟨hb_3, hF⟩ := chk_some hF
        refine va_iald hx hb hK hP 27 21 (wC_27 ad cA σ) (tC_27 cA) hb_3 dX3_freeTrunk_21 ?_
        refine lv_iconst (v := (-1)) hx hb dX3_freeTrunk_22 (by decide) ?_
        refine lv_icmp_ne (tgt := 29) hx hb dX3_freeTrunk_23 (by decide) (fun c_4 => ?_) (fun c_4 => ?_)
        · have hF := iteF hF c_4
          refine lv_iinc (v := (x3 + 1)) (lv' := [(3, .int (x3 + 1)), (4, .int r2), (0, .ref (ad 5)), (1, .int x1), (2, .int x2)]) hx hb dX3_freeTrunk_29 hl (k := 4) rfl rfl (by decide) rfl (fun ls hl => ?_)
          refine lv_goto (tgt := 2) hx hb dX3_freeTrunk_32 (by decide) ?_
          exact ih  x1 x2 (x3 + 1) hF _ _ _ hP hD hS (lv_sub hl [2, 3, 4, 0] rfl)
        · have hF := iteT hF c_4
          refine lv_iload hx hb dX3_freeTrunk_26 (lv_at hl 0 rfl) ?_
          exact g_iretR hx hb hr rfl hlocks hP hK hD hS dX3_freeTrunk_28 hF
  refine lp2 _ ?_ 64  p1 p2 0 hF _ _ _ hP hD hS (lv_sub hl [1, 2, 3, 0] rfl)
  intro x1 x2 x3 hF H locs ls hP hD hS hl
  refine lv_iconst (v := (-1)) hx hb dX3_freeTrunk_35 (by decide) ?_
  exact g_iretR hx hb hr rfl hlocks hP hK hD hS dX3_freeTrunk_36 hF
set_option maxHeartbeats 4000000 in
set_option maxRecDepth 100000 in
theorem tyc_B_occupy (l : Launch) (D : va_G) (ad : Nat → Nat) (cA : Nat → ClassId) (sz : Nat) (σ : tyS) (p1 : Int32) (p2 : Int32) (τ : tyS) (hF : tyf_B_occupy σ p1 p2 = some τ) : gMv l yX3_occupy wsX3_occupy ({ frames := 0, cells := 0, slots := 0, locals := 0 } : Room) D (wC ad cA) (tC cA) [.ref (ad 5), .int p1, .int p2] sz σ τ := by
  refine Met.ofW (cc := cX3_occupy) (maxL := 3) (ret := none) (by decide) rfl ?_
  intro p e s m args below meth c s₁ B hml hv
  obtain ⟨rfl, hsz, hP, hK, hD0, hNN⟩ := hv
  have hx := B.exec
  have hb := B.bytes
  have hr := B.returns
  have hts := atoms_spec (ws := wsX3_occupy) B.pre
  have hown : s.vm.findClass RX3 = some m.cls := findClass_of_methodNamed B.named
  have hlocks := B.notSynchronized
  subst hsz
  have hD := hD0.self (sz := s.heap.size)
  generalize hAe : va_A (wC ad cA σ) s.heap.size = A at hD ⊢
  have hA : ∀ q : Nat, s.heap.size ≤ q → A q := fun q h => by rw [← hAe]; exact Or.inr h
  clear hAe hD0
  have hS : va_S A s.heap s.heap [] := va_S.rf
  have hl := lv_entry ([.ref (ad 5), .int p1, .int p2]) (n := 3) (Nat.le_of_ble_eq_true rfl)
  rw [lg_entry_eq]
  generalize (lg_sl ([.ref (ad 5), .int p1, .int p2]) ++ List.replicate (3 - (lg_sl ([.ref (ad 5), .int p1, .int p2])).length) Slot.unset).toArray = ls at hl ⊢
  have hl : lv_has ls 3 [(0, .ref (ad 5)), (1, .int p1), (2, .int p2)] := hl
  have hw0 := hts (.fieldLink RX3 30 "TrunkYards$Switchboard" "trunks" "[I") (List.mem_cons_of_mem _ (List.mem_of_getElem? (i := 0) rfl))
  have hiX3 : ∀ w ∈ wsX30, w ∈ wsX3_occupy := fun w h => List.mem_cons_of_mem _ (List.mem_append_right _ h)
  unfold tyf_B_occupy at hF
  refine lv_iload_n hx hb dX3_occupy_0 rfl (lv_at hl 1 rfl) ?_
  refine lv_iconst (v := (-1)) hx hb dX3_occupy_1 (by decide) ?_
  refine lv_icmp_eq (tgt := 12) hx hb dX3_occupy_2 (by decide) (fun c_1 => ?_) (fun c_1 => ?_)
  · have hF := iteT hF c_1
    exact g_vretN hx hb hr hlocks hP hK hD hS dX3_occupy_12 hF
  · have hF := iteF hF c_1
    refine lv_aload_n hx hb dX3_occupy_5 rfl (lv_at hl 0 rfl) ?_
    refine va_get (D := D) (ci := 3) (v := .ref (ad 27)) (C := RX3) (T := TX3) (N := 9) hx hb hts hiX3 hown hK hP 5 (wC_5 ad cA σ) rfl 6 (by decide) hw0 (fun _ h9 => h9) rfl dX3_occupy_6 ?_
    refine lv_iload_n hx hb dX3_occupy_9 rfl (lv_at hl 1 rfl) ?_
    refine lv_iload_n hx hb dX3_occupy_10 rfl (lv_at hl 2 rfl) ?_
    obtain ⟨hb_2, hF⟩ := chk_some hF
    obtain ⟨σ3, e3, hF⟩ := stp_some hF
    refine gw_iast hx hb hK hP hD hS (wC_27 ad cA σ) (tC_27 cA) (wCs_27 ad cA σ) hb_2 dX3_occupy_11 e3 (fun H locs hP hD hS => ?_)
    exact g_vretN hx hb hr hlocks hP hK hD hS dX3_occupy_12 hF
set_option maxHeartbeats 4000000 in
set_option maxRecDepth 100000 in
theorem tyc_B_connect (l : Launch) (D : va_G) (ad : Nat → Nat) (cA : Nat → ClassId) (sz : Nat) (σ : tyS) (p1 : Int32) (p2 : Int32) (p3 : Int32) (p4 : Int32) (r : Int32) (τ : tyS) (hF : tyf_B_connect σ p1 p2 p3 p4 = some (r, τ)) : gMi l yX3_connect wsX3_connect ({ frames := 1, cells := 0, slots := 0, locals := 22 } : Room) D (wC ad cA) (tC cA) [.ref (ad 5), .int p1, .int p2, .int p3, .int p4] sz σ r τ := by
  refine Met.ofW (cc := cX3_connect) (maxL := 6) (ret := (some .int)) (by decide) rfl ?_
  intro p e s m args below meth c s₁ B hml hv
  obtain ⟨rfl, hsz, hP, hK, hD0, hNN⟩ := hv
  have hx := B.exec
  have hb := B.bytes
  have hr := B.returns
  have hts := atoms_spec (ws := wsX3_connect) B.pre
  have hown : s.vm.findClass RX3 = some m.cls := findClass_of_methodNamed B.named
  have hlocks := B.notSynchronized
  subst hsz
  have hD := hD0.self (sz := s.heap.size)
  generalize hAe : va_A (wC ad cA σ) s.heap.size = A at hD ⊢
  have hA : ∀ q : Nat, s.heap.size ≤ q → A q := fun q h => by rw [← hAe]; exact Or.inr h
  clear hAe hD0
  have hS : va_S A s.heap s.heap [] := va_S.rf
  have hl := lv_entry ([.ref (ad 5), .int p1, .int p2, .int p3, .int p4]) (n := 6) (Nat.le_of_ble_eq_true rfl)
  rw [lg_entry_eq]
  generalize (lg_sl ([.ref (ad 5), .int p1, .int p2, .int p3, .int p4]) ++ List.replicate (6 - (lg_sl ([.ref (ad 5), .int p1, .int p2, .int p3, .int p4])).length) Slot.unset).toArray = ls at hl ⊢
  have hl : lv_has ls 6 [(0, .ref (ad 5)), (1, .int p1), (2, .int p2), (3, .int p3), (4, .int p4)] := hl
  have hS9 : CallFix p m c cX3_connect 6 s _ wsX3_connect RX3 := ⟨hx, hb, hml, hown, hts⟩
  have hw0 := hts (.fieldLink RX3 42 "TrunkYards$Switchboard" "begun" "I") (List.mem_cons_of_mem _ (List.mem_of_getElem? (i := 0) rfl))
  have hiX3 : ∀ w ∈ wsX30, w ∈ wsX3_connect := fun w h => List.mem_cons_of_mem _ (List.mem_append_right _ h)
  have hw2 := hts (.fieldLink RX3 9 "TrunkYards$Switchboard" "customers" "[I") (List.mem_cons_of_mem _ (List.mem_of_getElem? (i := 1) rfl))
  have hw3 := hts (.fieldLink RX3 15 "TrunkYards$Switchboard" "yards" "[I") (List.mem_cons_of_mem _ (List.mem_of_getElem? (i := 2) rfl))
  have hw4 := hts (.fieldLink RX3 18 "TrunkYards$Switchboard" "openBookings" "[I") (List.mem_cons_of_mem _ (List.mem_of_getElem? (i := 3) rfl))
  have hw5 := hts (.fieldLink RX3 21 "TrunkYards$Switchboard" "firstTrunks" "[I") (List.mem_cons_of_mem _ (List.mem_of_getElem? (i := 4) rfl))
  have hw6 := hts (.fieldLink RX3 24 "TrunkYards$Switchboard" "secondTrunks" "[I") (List.mem_cons_of_mem _ (List.mem_of_getElem? (i := 5) rfl))
  have hw7 := hts (.fieldLink RX3 27 "TrunkYards$Switchboard" "ongoingCalls" "[I") (List.mem_cons_of_mem _ (List.mem_of_getElem? (i := 6) rfl))
  unfold tyf_B_connect at hF
  refine lv_aload_n hx hb dX3_connect_0 rfl (lv_at hl 0 rfl) ?_
  refine va_get (D := D) (ci := 3) (v := .int (σ.2 6)) (C := RX3) (T := TX3) (N := 9) hx hb hts hiX3 hown hK hP 5 (wC_5 ad cA σ) rfl 8 (by decide) hw0 (fun _ h9 => h9) rfl dX3_connect_1 ?_
  refine lv_istore (lv' := [(5, .int (σ.2 6)), (0, .ref (ad 5)), (1, .int p1), (2, .int p2), (3, .int p3), (4, .int p4)]) hx hb dX3_connect_4 hl (by decide) rfl (fun ls hl => ?_)
  refine lv_aload_n hx hb dX3_connect_6 rfl (lv_at hl 1 rfl) ?_
  refine lv_dup hx hb dX3_connect_7 rfl ?_
  refine va_get (D := D) (ci := 3) (v := .int (σ.2 6)) (C := RX3) (T := TX3) (N := 9) hx hb hts hiX3 hown hK hP 5 (wC_5 ad cA σ) rfl 8 (by decide) hw0 (fun _ h9 => h9) rfl dX3_connect_8 ?_
  refine lv_iconst (v := 1) hx hb dX3_connect_11 (by decide) ?_
  refine lv_iadd hx hb dX3_connect_12 ?_
  obtain ⟨σ1, e1, hF⟩ := stp_some hF
  refine gw_put hx hb hts hiX3 tyX3 tyX3_ok nmX3 hown hK hP hD hS 5 (wC_5 ad cA σ) rfl 8 (by decide) hw0 (fun _ h9 => h9) rfl (by decide +kernel) (show 8 < 9 from by decide) (wCv_6 ad cA σ _) dX3_connect_13 e1 (fun H locs hP hD hS => ?_)
  refine lv_aload_n hx hb dX3_connect_16 rfl (lv_at hl 1 rfl) ?_
  refine va_get (D := D) (ci := 3) (v := .ref (ad 21)) (C := RX3) (T := TX3) (N := 9) hx hb hts hiX3 hown hK hP 5 (wC_5 ad cA σ1) rfl 0 (by decide) hw2 (fun _ h9 => h9) rfl dX3_connect_17 ?_
  refine lv_iload hx hb dX3_connect_20 (lv_at hl 0 rfl) ?_
  refine lv_iload_n hx hb dX3_connect_22 rfl (lv_at hl 2 rfl) ?_
  obtain ⟨hb_2, hF⟩ := chk_some hF
  obtain ⟨σ3, e3, hF⟩ := stp_some hF
  refine gw_iast hx hb hK hP hD hS (wC_21 ad cA σ1) (tC_21 cA) (wCs_21 ad cA σ1) hb_2 dX3_connect_23 e3 (fun H locs hP hD hS => ?_)
  refine lv_aload_n hx hb dX3_connect_24 rfl (lv_at hl 1 rfl) ?_
  refine va_get (D := D) (ci := 3) (v := .ref (ad 22)) (C := RX3) (T := TX3) (N := 9) hx hb hts hiX3 hown hK hP 5 (wC_5 ad cA σ3) rfl 1 (by decide) hw3 (fun _ h9 => h9) rfl dX3_connect_25 ?_
  refine lv_iload hx hb dX3_connect_28 (lv_at hl 0 rfl) ?_
  refine lv_iload_n hx hb dX3_connect_30 rfl (lv_at hl 3 rfl) ?_
  obtain ⟨hb_4, hF⟩ := chk_some hF
  obtain ⟨σ5, e5, hF⟩ := stp_some hF
  refine gw_iast hx hb hK hP hD hS (wC_22 ad cA σ3) (tC_22 cA) (wCs_22 ad cA σ3) hb_4 dX3_connect_31 e5 (fun H locs hP hD hS => ?_)
  refine lv_aload_n hx hb dX3_connect_32 rfl (lv_at hl 1 rfl) ?_
  refine va_get (D := D) (ci := 3) (v := .ref (ad 23)) (C := RX3) (T := TX3) (N := 9) hx hb hts hiX3 hown hK hP 5 (wC_5 ad cA σ5) rfl 2 (by decide) hw4 (fun _ h9 => h9) rfl dX3_connect_33 ?_
  refine lv_iload hx hb dX3_connect_36 (lv_at hl 0 rfl) ?_
  refine lv_iconst (v := (-1)) hx hb dX3_connect_38 (by decide) ?_
  obtain ⟨hb_6, hF⟩ := chk_some hF
  obtain ⟨σ7, e7, hF⟩ := stp_some hF
  refine gw_iast hx hb hK hP hD hS (wC_23 ad cA σ5) (tC_23 cA) (wCs_23 ad cA σ5) hb_6 dX3_connect_39 e7 (fun H locs hP hD hS => ?_)
  refine lv_aload_n hx hb dX3_connect_40 rfl (lv_at hl 1 rfl) ?_
  refine va_get (D := D) (ci := 3) (v := .ref (ad 24)) (C := RX3) (T := TX3) (N := 9) hx hb hts hiX3 hown hK hP 5 (wC_5 ad cA σ7) rfl 3 (by decide) hw5 (fun _ h9 => h9) rfl dX3_connect_41 ?_
  refine lv_iload hx hb dX3_connect_44 (lv_at hl 0 rfl) ?_
  refine lv_iload_n hx hb dX3_connect_46 rfl (lv_at hl 4 rfl) ?_
  obtain ⟨hb_8, hF⟩ := chk_some hF
  obtain ⟨σ9, e9, hF⟩ := stp_some hF
  refine gw_iast hx hb hK hP hD hS (wC_24 ad cA σ7) (tC_24 cA) (wCs_24 ad cA σ7) hb_8 dX3_connect_47 e9 (fun H locs hP hD hS => ?_)
  refine lv_aload_n hx hb dX3_connect_48 rfl (lv_at hl 1 rfl) ?_
  refine va_get (D := D) (ci := 3) (v := .ref (ad 25)) (C := RX3) (T := TX3) (N := 9) hx hb hts hiX3 hown hK hP 5 (wC_5 ad cA σ9) rfl 4 (by decide) hw6 (fun _ h9 => h9) rfl dX3_connect_49 ?_
  refine lv_iload hx hb dX3_connect_52 (lv_at hl 0 rfl) ?_
  refine lv_iload hx hb dX3_connect_54 (lv_at hl 5 rfl) ?_
  obtain ⟨hb_10, hF⟩ := chk_some hF
  obtain ⟨σ11, e11, hF⟩ := stp_some hF
  refine gw_iast hx hb hK hP hD hS (wC_25 ad cA σ9) (tC_25 cA) (wCs_25 ad cA σ9) hb_10 dX3_connect_56 e11 (fun H locs hP hD hS => ?_)
  refine lv_aload_n hx hb dX3_connect_57 rfl (lv_at hl 1 rfl) ?_
  refine va_get (D := D) (ci := 3) (v := .ref (ad 26)) (C := RX3) (T := TX3) (N := 9) hx hb hts hiX3 hown hK hP 5 (wC_5 ad cA σ11) rfl 5 (by decide) hw7 (fun _ h9 => h9) rfl dX3_connect_58 ?_
  refine lv_iload_n hx hb dX3_connect_61 rfl (lv_at hl 2 rfl) ?_
  refine lv_iload hx hb dX3_connect_62 (lv_at hl 0 rfl) ?_
  obtain ⟨hb_12, hF⟩ := chk_some hF
  obtain ⟨σ13, e13, hF⟩ := stp_some hF
  refine gw_iast hx hb hK hP hD hS (wC_26 ad cA σ11) (tC_26 cA) (wCs_26 ad cA σ11) hb_12 dX3_connect_64 e13 (fun H locs hP hD hS => ?_)
  refine lv_aload_n hx hb dX3_connect_65 rfl (lv_at hl 1 rfl) ?_
  refine lv_iload_n hx hb dX3_connect_66 rfl (lv_at hl 4 rfl) ?_
  refine lv_iload hx hb dX3_connect_67 (lv_at hl 0 rfl) ?_
  obtain ⟨σ14, e14, hF⟩ := bR_some hF
  refine gc_Vv (As := [.int p3, .int (σ.2 6)]) hS9 (tyc_B_occupy l D ad cA _ σ13 p3 (σ.2 6) σ14 e14) (cwV 2 hts gX3_connect_X3_occupy rfl rfl rfl hd_X3_occupy ⟨by decide, by decide⟩) hK hP hD hS hA hNN (ci := 3) (q0 := 5) (N := 9) rfl (wC_5 ad cA σ13) rfl hl.1 rfl (Nat.le_of_ble_eq_true rfl) dX3_connect_69 (fun H locs hP hD hS => ?_)
  refine lv_aload_n hx hb dX3_connect_72 rfl (lv_at hl 1 rfl) ?_
  refine lv_iload hx hb dX3_connect_73 (lv_at hl 5 rfl) ?_
  refine lv_iload hx hb dX3_connect_75 (lv_at hl 0 rfl) ?_
  obtain ⟨σ15, e15, hF⟩ := bR_some hF
  refine gc_Vv (As := [.int p4, .int (σ.2 6)]) hS9 (tyc_B_occupy l D ad cA _ σ14 p4 (σ.2 6) σ15 e15) (cwV 2 hts gX3_connect_X3_occupy rfl rfl rfl hd_X3_occupy ⟨by decide, by decide⟩) hK hP hD hS hA hNN (ci := 3) (q0 := 5) (N := 9) rfl (wC_5 ad cA σ14) rfl hl.1 rfl (Nat.le_of_ble_eq_true rfl) dX3_connect_77 (fun H locs hP hD hS => ?_)
  refine lv_iload hx hb dX3_connect_80 (lv_at hl 0 rfl) ?_
  exact g_iretN hx hb hr rfl hlocks hP hK hD hS dX3_connect_82 hF
set_option maxHeartbeats 4000000 in
set_option maxRecDepth 100000 in
theorem tyc_B_begin (l : Launch) (D : va_G) (ad : Nat → Nat) (cA : Nat → ClassId) (sz : Nat) (σ : tyS) (p1 : Int32) (p2 : Int32) (r : Int32) (τ : tyS) (hF : tyf_B_begin σ p1 p2 = some (r, τ)) : gMi l yX3_begin wsX3_begin ({ frames := 2, cells := 0, slots := 0, locals := 47 } : Room) D (wC ad cA) (tC cA) [.ref (ad 5), .int p1, .int p2] sz σ r τ := by
  refine Met.ofW (cc := cX3_begin) (maxL := 8) (ret := (some .int)) (by decide) rfl ?_
  intro p e s m args below meth c s₁ B hml hv
  obtain ⟨rfl, hsz, hP, hK, hD0, hNN⟩ := hv
  have hx := B.exec
  have hb := B.bytes
  have hr := B.returns
  have hts := atoms_spec (ws := wsX3_begin) B.pre
  have hown : s.vm.findClass RX3 = some m.cls := findClass_of_methodNamed B.named
  have hlocks := B.notSynchronized
  subst hsz
  have hD := hD0.self (sz := s.heap.size)
  generalize hAe : va_A (wC ad cA σ) s.heap.size = A at hD ⊢
  have hA : ∀ q : Nat, s.heap.size ≤ q → A q := fun q h => by rw [← hAe]; exact Or.inr h
  clear hAe hD0
  have hS : va_S A s.heap s.heap [] := va_S.rf
  have hl := lv_entry ([.ref (ad 5), .int p1, .int p2]) (n := 8) (Nat.le_of_ble_eq_true rfl)
  rw [lg_entry_eq]
  generalize (lg_sl ([.ref (ad 5), .int p1, .int p2]) ++ List.replicate (8 - (lg_sl ([.ref (ad 5), .int p1, .int p2])).length) Slot.unset).toArray = ls at hl ⊢
  have hl : lv_has ls 8 [(0, .ref (ad 5)), (1, .int p1), (2, .int p2)] := hl
  have hS9 : CallFix p m c cX3_begin 8 s _ wsX3_begin RX3 := ⟨hx, hb, hml, hown, hts⟩
  have hw0 := hts (.fieldLink RX3 33 "TrunkYards$Switchboard" "lineCounts" "[I") (List.mem_cons_of_mem _ (List.mem_of_getElem? (i := 0) rfl))
  have hiX3 : ∀ w ∈ wsX30, w ∈ wsX3_begin := fun w h => List.mem_cons_of_mem _ (List.mem_append_right _ h)
  unfold tyf_B_begin at hF
  refine lv_aload_n hx hb dX3_begin_0 rfl (lv_at hl 0 rfl) ?_
  refine lv_iload_n hx hb dX3_begin_1 rfl (lv_at hl 2 rfl) ?_
  obtain ⟨r1, er1, hF⟩ := bR_some hF
  refine gc_Vi (As := [.int p2]) hS9 (tyc_B_callsTo l D ad cA _ σ p2 r1 er1) (cwV 1 hts gX3_begin_X3_callsTo rfl rfl rfl hd_X3_callsTo ⟨by decide, by decide⟩) hK hP hD hS hA hNN (ci := 3) (q0 := 5) (N := 9) rfl (wC_5 ad cA σ) rfl hl.1 rfl (Nat.le_of_ble_eq_true rfl) dX3_begin_2 (fun H locs hP hD hS => ?_)
  refine lv_aload_n hx hb dX3_begin_5 rfl (lv_at hl 0 rfl) ?_
  refine va_get (D := D) (ci := 3) (v := .ref (ad 28)) (C := RX3) (T := TX3) (N := 9) hx hb hts hiX3 hown hK hP 5 (wC_5 ad cA σ) rfl 7 (by decide) hw0 (fun _ h9 => h9) rfl dX3_begin_6 ?_
  refine lv_iload_n hx hb dX3_begin_9 rfl (lv_at hl 2 rfl) ?_
  obtain ⟨hb_2, hF⟩ := chk_some hF
  refine va_iald hx hb hK hP 28 22 (wC_28 ad cA σ) (tC_28 cA) hb_2 dX3_begin_10 ?_
  refine lv_icmp_lt (tgt := 16) hx hb dX3_begin_11 (by decide) (fun c_3 => ?_) (fun c_3 => ?_)
  · have hF := iteT hF c_3
    refine lv_iload_n hx hb dX3_begin_16 rfl (lv_at hl 1 rfl) ?_
    refine lv_iconst (v := 3) hx hb dX3_begin_17 (by decide) ?_
    refine lv_irem hx hb dX3_begin_18 (by decide) ?_
    refine lv_istore_n (lv' := [(3, .int (p1 - p1 / 3 * 3)), (0, .ref (ad 5)), (1, .int p1), (2, .int p2)]) hx hb dX3_begin_19 rfl hl (by decide) rfl (fun ls hl => ?_)
    refine lv_iload_n hx hb dX3_begin_20 rfl (lv_at hl 0 rfl) ?_
    refine lv_iload_n hx hb dX3_begin_21 rfl (lv_at hl 3 rfl) ?_
    refine lv_icmp_ne (tgt := 34) hx hb dX3_begin_22 (by decide) (fun c_4 => ?_) (fun c_4 => ?_)
    · have hF := iteF hF c_4
      refine lv_aload_n hx hb dX3_begin_34 rfl (lv_at hl 1 rfl) ?_
      refine lv_iload_n hx hb dX3_begin_35 rfl (lv_at hl 0 rfl) ?_
      refine lv_iload_n hx hb dX3_begin_36 rfl (lv_at hl 3 rfl) ?_
      obtain ⟨r5, er5, hF⟩ := bR_some hF
      refine gc_Vi (As := [.int (p1 - p1 / 3 * 3), .int p2]) hS9 (tyc_B_freeTrunk l D ad cA _ σ (p1 - p1 / 3 * 3) p2 r5 er5) (cwV 2 hts gX3_begin_X3_freeTrunk rfl rfl rfl hd_X3_freeTrunk ⟨by decide, by decide⟩) hK hP hD hS hA hNN (ci := 3) (q0 := 5) (N := 9) rfl (wC_5 ad cA σ) rfl hl.1 rfl (Nat.le_of_ble_eq_true rfl) dX3_begin_37 (fun H locs hP hD hS => ?_)
      refine lv_istore (lv' := [(4, .int r5), (3, .int (p1 - p1 / 3 * 3)), (0, .ref (ad 5)), (1, .int p1), (2, .int p2)]) hx hb dX3_begin_40 hl (by decide) rfl (fun ls hl => ?_)
      refine lv_iload hx hb dX3_begin_42 (lv_at hl 0 rfl) ?_
      refine lv_iconst (v := (-1)) hx hb dX3_begin_44 (by decide) ?_
      refine lv_icmp_eq (tgt := 58) hx hb dX3_begin_45 (by decide) (fun c_6 => ?_) (fun c_6 => ?_)
      · have hF := iteT hF c_6
        refine lv_iconst (v := 3) hx hb dX3_begin_58 (by decide) ?_
        refine lv_iload_n hx hb dX3_begin_59 rfl (lv_at hl 1 rfl) ?_
        refine lv_isub hx hb dX3_begin_60 ?_
        refine lv_iload_n hx hb dX3_begin_61 rfl (lv_at hl 4 rfl) ?_
        refine lv_isub hx hb dX3_begin_62 ?_
        refine lv_istore (lv' := [(5, .int ((3 - (p1 - p1 / 3 * 3)) - p2)), (4, .int r5), (3, .int (p1 - p1 / 3 * 3)), (0, .ref (ad 5)), (1, .int p1), (2, .int p2)]) hx hb dX3_begin_63 hl (by decide) rfl (fun ls hl => ?_)
        refine lv_aload_n hx hb dX3_begin_65 rfl (lv_at hl 3 rfl) ?_
        refine lv_iload_n hx hb dX3_begin_66 rfl (lv_at hl 2 rfl) ?_
        refine lv_iload hx hb dX3_begin_67 (lv_at hl 0 rfl) ?_
        obtain ⟨r7, er7, hF⟩ := bR_some hF
        refine gc_Vi (As := [.int (p1 - p1 / 3 * 3), .int ((3 - (p1 - p1 / 3 * 3)) - p2)]) hS9 (tyc_B_freeTrunk l D ad cA _ σ (p1 - p1 / 3 * 3) ((3 - (p1 - p1 / 3 * 3)) - p2) r7 er7) (cwV 2 hts gX3_begin_X3_freeTrunk rfl rfl rfl hd_X3_freeTrunk ⟨by decide, by decide⟩) hK hP hD hS hA hNN (ci := 3) (q0 := 5) (N := 9) rfl (wC_5 ad cA σ) rfl hl.1 rfl (Nat.le_of_ble_eq_true rfl) dX3_begin_69 (fun H locs hP hD hS => ?_)
        refine lv_istore (lv' := [(6, .int r7), (5, .int ((3 - (p1 - p1 / 3 * 3)) - p2)), (4, .int r5), (3, .int (p1 - p1 / 3 * 3)), (0, .ref (ad 5)), (1, .int p1), (2, .int p2)]) hx hb dX3_begin_72 hl (by decide) rfl (fun ls hl => ?_)
        refine lv_aload_n hx hb dX3_begin_74 rfl (lv_at hl 4 rfl) ?_
        refine lv_iload hx hb dX3_begin_75 (lv_at hl 1 rfl) ?_
        refine lv_iload_n hx hb dX3_begin_77 rfl (lv_at hl 6 rfl) ?_
        obtain ⟨r8, er8, hF⟩ := bR_some hF
        refine gc_Vi (As := [.int ((3 - (p1 - p1 / 3 * 3)) - p2), .int p2]) hS9 (tyc_B_freeTrunk l D ad cA _ σ ((3 - (p1 - p1 / 3 * 3)) - p2) p2 r8 er8) (cwV 2 hts gX3_begin_X3_freeTrunk rfl rfl rfl hd_X3_freeTrunk ⟨by decide, by decide⟩) hK hP hD hS hA hNN (ci := 3) (q0 := 5) (N := 9) rfl (wC_5 ad cA σ) rfl hl.1 rfl (Nat.le_of_ble_eq_true rfl) dX3_begin_78 (fun H locs hP hD hS => ?_)
        refine lv_istore (lv' := [(7, .int r8), (6, .int r7), (5, .int ((3 - (p1 - p1 / 3 * 3)) - p2)), (4, .int r5), (3, .int (p1 - p1 / 3 * 3)), (0, .ref (ad 5)), (1, .int p1), (2, .int p2)]) hx hb dX3_begin_81 hl (by decide) rfl (fun ls hl => ?_)
        refine lv_iload hx hb dX3_begin_83 (lv_at hl 1 rfl) ?_
        refine lv_iconst (v := (-1)) hx hb dX3_begin_85 (by decide) ?_
        refine lv_icmp_eq (tgt := 95) hx hb dX3_begin_86 (by decide) (fun c_9 => ?_) (fun c_9 => ?_)
        · have hF := iteT hF c_9
          refine lv_iconst (v := (-1)) hx hb dX3_begin_95 (by decide) ?_
          exact g_iretN hx hb hr rfl hlocks hP hK hD hS dX3_begin_96 hF
        · have hF := iteF hF c_9
          refine lv_iload hx hb dX3_begin_89 (lv_at hl 0 rfl) ?_
          refine lv_iconst (v := (-1)) hx hb dX3_begin_91 (by decide) ?_
          refine lv_icmp_ne (tgt := 97) hx hb dX3_begin_92 (by decide) (fun c_10 => ?_) (fun c_10 => ?_)
          · have hF := iteF hF c_10
            refine lv_aload_n hx hb dX3_begin_97 rfl (lv_at hl 5 rfl) ?_
            refine lv_iload_n hx hb dX3_begin_98 rfl (lv_at hl 6 rfl) ?_
            refine lv_iload_n hx hb dX3_begin_99 rfl (lv_at hl 7 rfl) ?_
            refine lv_iload hx hb dX3_begin_100 (lv_at hl 1 rfl) ?_
            refine lv_iload hx hb dX3_begin_102 (lv_at hl 0 rfl) ?_
            obtain ⟨r12, σ11, er12, hF⟩ := bN_some hF
            refine gc_Vi (As := [.int p1, .int p2, .int r7, .int r8]) hS9 (tyc_B_connect l D ad cA _ σ p1 p2 r7 r8 r12 σ11 er12) (cwV 4 hts gX3_begin_X3_connect rfl rfl rfl hd_X3_connect ⟨by decide, by decide⟩) hK hP hD hS hA hNN (ci := 3) (q0 := 5) (N := 9) rfl (wC_5 ad cA σ) rfl hl.1 rfl (Nat.le_of_ble_eq_true rfl) dX3_begin_104 (fun H locs hP hD hS => ?_)
            exact g_iretN hx hb hr rfl hlocks hP hK hD hS dX3_begin_107 hF
          · have hF := iteT hF c_10
            refine lv_iconst (v := (-1)) hx hb dX3_begin_95 (by decide) ?_
            exact g_iretN hx hb hr rfl hlocks hP hK hD hS dX3_begin_96 hF
      · have hF := iteF hF c_6
        refine lv_aload_n hx hb dX3_begin_48 rfl (lv_at hl 2 rfl) ?_
        refine lv_iload_n hx hb dX3_begin_49 rfl (lv_at hl 3 rfl) ?_
        refine lv_iload_n hx hb dX3_begin_50 rfl (lv_at hl 4 rfl) ?_
        refine lv_iload hx hb dX3_begin_51 (lv_at hl 0 rfl) ?_
        refine lv_iconst (v := (-1)) hx hb dX3_begin_53 (by decide) ?_
        obtain ⟨r14, σ13, er14, hF⟩ := bN_some hF
        refine gc_Vi (As := [.int p1, .int p2, .int r5, .int (-1)]) hS9 (tyc_B_connect l D ad cA _ σ p1 p2 r5 (-1) r14 σ13 er14) (cwV 4 hts gX3_begin_X3_connect rfl rfl rfl hd_X3_connect ⟨by decide, by decide⟩) hK hP hD hS hA hNN (ci := 3) (q0 := 5) (N := 9) rfl (wC_5 ad cA σ) rfl hl.1 rfl (Nat.le_of_ble_eq_true rfl) dX3_begin_54 (fun H locs hP hD hS => ?_)
        exact g_iretN hx hb hr rfl hlocks hP hK hD hS dX3_begin_57 hF
    · have hF := iteT hF c_4
      refine lv_aload_n hx hb dX3_begin_25 rfl (lv_at hl 1 rfl) ?_
      refine lv_iload_n hx hb dX3_begin_26 rfl (lv_at hl 2 rfl) ?_
      refine lv_iload_n hx hb dX3_begin_27 rfl (lv_at hl 3 rfl) ?_
      refine lv_iconst (v := (-1)) hx hb dX3_begin_28 (by decide) ?_
      refine lv_iconst (v := (-1)) hx hb dX3_begin_29 (by decide) ?_
      obtain ⟨r16, σ15, er16, hF⟩ := bN_some hF
      refine gc_Vi (As := [.int p1, .int p2, .int (-1), .int (-1)]) hS9 (tyc_B_connect l D ad cA _ σ p1 p2 (-1) (-1) r16 σ15 er16) (cwV 4 hts gX3_begin_X3_connect rfl rfl rfl hd_X3_connect ⟨by decide, by decide⟩) hK hP hD hS hA hNN (ci := 3) (q0 := 5) (N := 9) rfl (wC_5 ad cA σ) rfl hl.1 rfl (Nat.le_of_ble_eq_true rfl) dX3_begin_30 (fun H locs hP hD hS => ?_)
      exact g_iretN hx hb hr rfl hlocks hP hK hD hS dX3_begin_33 hF
  · have hF := iteF hF c_3
    refine lv_iconst (v := (-1)) hx hb dX3_begin_14 (by decide) ?_
    exact g_iretN hx hb hr rfl hlocks hP hK hD hS dX3_begin_15 hF
set_option maxHeartbeats 4000000 in
set_option maxRecDepth 100000 in
theorem tyc_T_call (l : Launch) (D : va_G) (ad : Nat → Nat) (cA : Nat → ClassId) (sz : Nat) (σ : tyS) (p1 : Int32) (p2 : Int32) (res : tyX) (hl9 : l.stackTraces = false) (hF : tyf_T_call σ p1 p2 = some res) : gXi gStr l yX4_call wsX4_call ({ frames := 7, cells := 1, slots := 6, locals := 102 } : Room) D (wC ad cA) (tC cA) [.ref (ad 0), .int p1, .int p2] sz σ res := by
  refine ty_ofW (cc := cX4_call) (maxL := 4) (ret := (some .int)) (by decide) rfl ?_
  intro p e s m args below meth c s₁ B hml ht9 hv
  obtain ⟨rfl, ⟨hsz, hP, hK, hD0, hNN⟩, hOK⟩ := hv
  have hx := B.exec
  have hb := B.bytes
  have hr := B.returns
  have hts := atoms_spec (ws := wsX4_call) B.pre
  have hown : s.vm.findClass RX4 = some m.cls := findClass_of_methodNamed B.named
  have hlocks := B.notSynchronized
  subst hsz
  have hD := hD0.self (sz := s.heap.size)
  generalize hAe : va_A (wC ad cA σ) s.heap.size = A at hD hOK ⊢
  have hA : ∀ q : Nat, s.heap.size ≤ q → A q := fun q h => by rw [← hAe]; exact Or.inr h
  clear hAe hD0
  have hS : va_S A s.heap s.heap [] := va_S.rf
  have hl := lv_entry ([.ref (ad 0), .int p1, .int p2]) (n := 4) (Nat.le_of_ble_eq_true rfl)
  rw [lg_entry_eq]
  generalize (lg_sl ([.ref (ad 0), .int p1, .int p2]) ++ List.replicate (4 - (lg_sl ([.ref (ad 0), .int p1, .int p2])).length) Slot.unset).toArray = ls at hl ⊢
  have hl : lv_has ls 4 [(0, .ref (ad 0)), (1, .int p1), (2, .int p2)] := hl
  have hS9 : CallFix p m c cX4_call 4 s _ wsX4_call RX4 := ⟨hx, hb, hml, hown, hts⟩
  have hw0 := hts (.fieldLink RX4 36 "TrunkYards" "board" "LTrunkYards$Switchboard;") (List.mem_cons_of_mem _ (List.mem_of_getElem? (i := 2) rfl))
  have hiX4 : ∀ w ∈ wsX40, w ∈ wsX4_call := fun w h => List.mem_cons_of_mem _ (List.mem_append_left _ (List.mem_append_left _ (List.mem_append_left _ (List.mem_append_right _ h))))
  have hw2 := hts (.classLink RX4 73 "java/lang/IllegalStateException") (List.mem_cons_of_mem _ (List.mem_of_getElem? (i := 0) rfl))
  have hw3 := hts (.initialized "java/lang/IllegalStateException") (List.mem_cons_of_mem _ (List.mem_of_getElem? (i := 1) rfl))
  have hw4 := hts (.fieldLink RX4 148 "TrunkYards" "busyCalls" "I") (List.mem_cons_of_mem _ (List.mem_of_getElem? (i := 3) rfl))
  unfold tyf_T_call at hF
  refine lv_iload_n hx hb dX4_call_0 rfl (lv_at hl 1 rfl) ?_
  rcases bX_some hF with ⟨kr2, r2, σ1, er2, hF⟩ | ⟨r2, σ1, er2, hF⟩
  · exact gx_T (gx_runS (As := [.int p1]) (Qc := gQXv D (wC ad cA) (tC cA) _ _) hS9 (tyc_T_requireCustomer l D ad cA _ σ p1 _ hl9 er2) (va_cwS 1 hts gX4_call_X4_requireCustomer rfl rfl rfl hd_X4_requireCustomer ⟨by decide, by decide⟩) hOK hK hP hD hS hA hNN rfl hl.1 rfl (Nat.le_of_ble_eq_true rfl) dX4_call_1 ⟨by decide, by decide⟩) (gx_nov rfl) rfl hF ht9 hlocks hK hD hS hA
  refine gx_Rv (rest2 := ([.int p1])) (gx_runS (As := [.int p1]) (Qc := gQXv D (wC ad cA) (tC cA) _ _) hS9 (tyc_T_requireCustomer l D ad cA _ σ p1 _ hl9 er2) (va_cwS 1 hts gX4_call_X4_requireCustomer rfl rfl rfl hd_X4_requireCustomer ⟨by decide, by decide⟩) hOK hK hP hD hS hA hNN rfl hl.1 rfl (Nat.le_of_ble_eq_true rfl) dX4_call_1 ⟨by decide, by decide⟩) rfl hK hD hS hA (fun H locs hP hD hS => ?_)
  refine lv_iload_n hx hb dX4_call_4 rfl (lv_at hl 2 rfl) ?_
  rcases bX_some hF with ⟨kr4, r4, σ3, er4, hF⟩ | ⟨r4, σ3, er4, hF⟩
  · exact gx_T (gx_runS (As := [.int p2]) (Qc := gQXv D (wC ad cA) (tC cA) _ _) hS9 (tyc_T_requireYard l D ad cA _ σ1 p2 _ hl9 er4) (va_cwS 1 hts gX4_call_X4_requireYard rfl rfl rfl hd_X4_requireYard ⟨by decide, by decide⟩) hOK hK hP hD hS hA hNN rfl hl.1 rfl (Nat.le_of_ble_eq_true rfl) dX4_call_5 ⟨by decide, by decide⟩) (gx_nov rfl) rfl hF ht9 hlocks hK hD hS hA
  refine gx_Rv (rest2 := ([.int p2])) (gx_runS (As := [.int p2]) (Qc := gQXv D (wC ad cA) (tC cA) _ _) hS9 (tyc_T_requireYard l D ad cA _ σ1 p2 _ hl9 er4) (va_cwS 1 hts gX4_call_X4_requireYard rfl rfl rfl hd_X4_requireYard ⟨by decide, by decide⟩) hOK hK hP hD hS hA hNN rfl hl.1 rfl (Nat.le_of_ble_eq_true rfl) dX4_call_5 ⟨by decide, by decide⟩) rfl hK hD hS hA (fun H locs hP hD hS => ?_)
  refine lv_aload_n hx hb dX4_call_8 rfl (lv_at hl 0 rfl) ?_
  refine va_get (D := D) (ci := 4) (v := .ref (ad 5)) (C := RX4) (T := TX4) (N := 12) hx hb hts hiX4 hown hK hP 0 (wC_0 ad cA σ3) rfl 4 (by decide) hw0 (fun _ h9 => h9) rfl dX4_call_9 ?_
  refine lv_iload_n hx hb dX4_call_12 rfl (lv_at hl 1 rfl) ?_
  obtain ⟨r5, er5, hF⟩ := bR_some hF
  refine gc_Vi (As := [.int p1]) hS9 (tyc_B_ongoing l D ad cA _ σ3 p1 r5 er5) (cwV 1 hts gX4_call_X3_ongoing rfl rfl rfl hd_X3_ongoing ⟨by decide, by decide⟩) hK hP hD hS hA hNN (ci := 3) (q0 := 5) (N := 9) rfl (wC_5 ad cA σ3) rfl hl.1 rfl (Nat.le_of_ble_eq_true rfl) dX4_call_13 (fun H locs hP hD hS => ?_)
  refine lv_iconst (v := (-1)) hx hb dX4_call_16 (by decide) ?_
  refine lv_icmp_ne (tgt := 30) hx hb dX4_call_17 (by decide) (fun c_6 => ?_) (fun c_6 => ?_)
  · have hF := iteF hF c_6
    exact gx_throwS (own := RX4) (cls := "java/lang/IllegalStateException") (text := "the customer has a call, or there were too many") (k := 1) hx hb hl9 hown rfl (by decide +kernel) hw2 hw3 (fun w h => hts w (List.mem_cons_of_mem _ (List.mem_append_left _ (List.mem_append_right _ h)))) gnoX4_77 ggdX4_73_77 hOK (List.mem_of_getElem? (i := 5) rfl) (by rw [hml]; exact hl.1) ht9 hlocks hP hK hD hS dX4_call_30 dX4_call_33 dX4_call_34 dX4_call_36 dX4_call_39 ⟨by decide, by decide, by decide, by decide⟩ hF
  · have hF := iteT hF c_6
    refine lv_aload_n hx hb dX4_call_20 rfl (lv_at hl 0 rfl) ?_
    refine va_get (D := D) (ci := 4) (v := .ref (ad 5)) (C := RX4) (T := TX4) (N := 12) hx hb hts hiX4 hown hK hP 0 (wC_0 ad cA σ3) rfl 4 (by decide) hw0 (fun _ h9 => h9) rfl dX4_call_21 ?_
    obtain ⟨r7, er7, hF⟩ := bR_some hF
    refine gc_Vi (As := []) hS9 (tyc_B_isFull l D ad cA _ σ3  r7 er7) (cwV 0 hts gX4_call_X3_isFull rfl rfl rfl hd_X3_isFull ⟨by decide, by decide⟩) hK hP hD hS hA hNN (ci := 3) (q0 := 5) (N := 9) rfl (wC_5 ad cA σ3) rfl hl.1 rfl (Nat.le_of_ble_eq_true rfl) dX4_call_24 (fun H locs hP hD hS => ?_)
    refine lv_if_eq (tgt := 40) hx hb dX4_call_27 (by decide) (fun c_8 => ?_) (fun c_8 => ?_)
    · have hF := iteT hF c_8
      refine lv_aload_n hx hb dX4_call_40 rfl (lv_at hl 0 rfl) ?_
      refine va_get (D := D) (ci := 4) (v := .ref (ad 5)) (C := RX4) (T := TX4) (N := 12) hx hb hts hiX4 hown hK hP 0 (wC_0 ad cA σ3) rfl 4 (by decide) hw0 (fun _ h9 => h9) rfl dX4_call_41 ?_
      refine lv_iload_n hx hb dX4_call_44 rfl (lv_at hl 1 rfl) ?_
      refine lv_iload_n hx hb dX4_call_45 rfl (lv_at hl 2 rfl) ?_
      obtain ⟨r10, σ9, er10, hF⟩ := bN_some hF
      refine gc_Vi (As := [.int p1, .int p2]) hS9 (tyc_B_begin l D ad cA _ σ3 p1 p2 r10 σ9 er10) (cwV 2 hts gX4_call_X3_begin rfl rfl rfl hd_X3_begin ⟨by decide, by decide⟩) hK hP hD hS hA hNN (ci := 3) (q0 := 5) (N := 9) rfl (wC_5 ad cA σ3) rfl hl.1 rfl (Nat.le_of_ble_eq_true rfl) dX4_call_46 (fun H locs hP hD hS => ?_)
      refine lv_istore_n (lv' := [(3, .int r10), (0, .ref (ad 0)), (1, .int p1), (2, .int p2)]) hx hb dX4_call_49 rfl hl (by decide) rfl (fun ls hl => ?_)
      refine lv_iload_n hx hb dX4_call_50 rfl (lv_at hl 0 rfl) ?_
      refine lv_iconst (v := (-1)) hx hb dX4_call_51 (by decide) ?_
      refine lv_icmp_ne (tgt := 65) hx hb dX4_call_52 (by decide) (fun c_11 => ?_) (fun c_11 => ?_)
      · have hF := iteF hF c_11
        refine lv_iload_n hx hb dX4_call_65 rfl (lv_at hl 0 rfl) ?_
        exact g_iretX hx hb hr rfl hlocks hP hK hD hS dX4_call_66 hF
      · have hF := iteT hF c_11
        refine lv_aload_n hx hb dX4_call_55 rfl (lv_at hl 1 rfl) ?_
        refine lv_dup hx hb dX4_call_56 rfl ?_
        refine va_get (D := D) (ci := 4) (v := .int (σ9.2 2)) (C := RX4) (T := TX4) (N := 12) hx hb hts hiX4 hown hK hP 0 (wC_0 ad cA σ9) rfl 10 (by decide) hw4 (fun _ h9 => h9) rfl dX4_call_57 ?_
        refine lv_iconst (v := 1) hx hb dX4_call_60 (by decide) ?_
        refine lv_iadd hx hb dX4_call_61 ?_
        obtain ⟨σ12, e12, hF⟩ := stp_some hF
        refine gw_put hx hb hts hiX4 tyX4 tyX4_ok nmX4 hown hK hP hD hS 0 (wC_0 ad cA σ9) rfl 10 (by decide) hw4 (fun _ h9 => h9) rfl (by decide +kernel) (show 10 < 12 from by decide) (wCv_2 ad cA σ9 _) dX4_call_62 e12 (fun H locs hP hD hS => ?_)
        refine lv_iload_n hx hb dX4_call_65 rfl (lv_at hl 0 rfl) ?_
        exact g_iretX hx hb hr rfl hlocks hP hK hD hS dX4_call_66 hF
    · have hF := iteF hF c_8
      exact gx_throwS (own := RX4) (cls := "java/lang/IllegalStateException") (text := "the customer has a call, or there were too many") (k := 1) hx hb hl9 hown rfl (by decide +kernel) hw2 hw3 (fun w h => hts w (List.mem_cons_of_mem _ (List.mem_append_left _ (List.mem_append_right _ h)))) gnoX4_77 ggdX4_73_77 hOK (List.mem_of_getElem? (i := 5) rfl) (by rw [hml]; exact hl.1) ht9 hlocks hP hK hD hS dX4_call_30 dX4_call_33 dX4_call_34 dX4_call_36 dX4_call_39 ⟨by decide, by decide, by decide, by decide⟩ hF
set_option maxHeartbeats 4000000 in
set_option maxRecDepth 100000 in
theorem tyc_B_hasBegun (l : Launch) (D : va_G) (ad : Nat → Nat) (cA : Nat → ClassId) (sz : Nat) (σ : tyS) (p1 : Int32) (r : Int32) (hF : tyf_B_hasBegun σ p1 = some r) : gMi l yX3_hasBegun wsX3_hasBegun ({ frames := 0, cells := 0, slots := 0, locals := 0 } : Room) D (wC ad cA) (tC cA) [.ref (ad 5), .int p1] sz σ r σ := by
  refine Met.ofW (cc := cX3_hasBegun) (maxL := 2) (ret := (some .boolean)) (by decide) rfl ?_
  intro p e s m args below meth c s₁ B hml hv
  obtain ⟨rfl, hsz, hP, hK, hD0, hNN⟩ := hv
  have hx := B.exec
  have hb := B.bytes
  have hr := B.returns
  have hts := atoms_spec (ws := wsX3_hasBegun) B.pre
  have hown : s.vm.findClass RX3 = some m.cls := findClass_of_methodNamed B.named
  have hlocks := B.notSynchronized
  subst hsz
  have hD := hD0.self (sz := s.heap.size)
  generalize hAe : va_A (wC ad cA σ) s.heap.size = A at hD ⊢
  have hA : ∀ q : Nat, s.heap.size ≤ q → A q := fun q h => by rw [← hAe]; exact Or.inr h
  clear hAe hD0
  have hS : va_S A s.heap s.heap [] := va_S.rf
  have hl := lv_entry ([.ref (ad 5), .int p1]) (n := 2) (Nat.le_of_ble_eq_true rfl)
  rw [lg_entry_eq]
  generalize (lg_sl ([.ref (ad 5), .int p1]) ++ List.replicate (2 - (lg_sl ([.ref (ad 5), .int p1])).length) Slot.unset).toArray = ls at hl ⊢
  have hl : lv_has ls 2 [(0, .ref (ad 5)), (1, .int p1)] := hl
  have hw0 := hts (.fieldLink RX3 42 "TrunkYards$Switchboard" "begun" "I") (List.mem_cons_of_mem _ (List.mem_of_getElem? (i := 0) rfl))
  have hiX3 : ∀ w ∈ wsX30, w ∈ wsX3_hasBegun := fun w h => List.mem_cons_of_mem _ (List.mem_append_right _ h)
  unfold tyf_B_hasBegun at hF
  refine lv_iload_n hx hb dX3_hasBegun_0 rfl (lv_at hl 1 rfl) ?_
  refine lv_if_lt (tgt := 16) hx hb dX3_hasBegun_1 (by decide) (fun c_1 => ?_) (fun c_1 => ?_)
  · have hF := iteT hF c_1
    refine lv_iconst (v := 0) hx hb dX3_hasBegun_16 (by decide) ?_
    exact g_iretR hx hb hr rfl hlocks hP hK hD hS dX3_hasBegun_17 hF
  · have hF := iteF hF c_1
    refine lv_iload_n hx hb dX3_hasBegun_4 rfl (lv_at hl 1 rfl) ?_
    refine lv_aload_n hx hb dX3_hasBegun_5 rfl (lv_at hl 0 rfl) ?_
    refine va_get (D := D) (ci := 3) (v := .int (σ.2 6)) (C := RX3) (T := TX3) (N := 9) hx hb hts hiX3 hown hK hP 5 (wC_5 ad cA σ) rfl 8 (by decide) hw0 (fun _ h9 => h9) rfl dX3_hasBegun_6 ?_
    refine lv_icmp_ge (tgt := 16) hx hb dX3_hasBegun_9 (by decide) (fun c_2 => ?_) (fun c_2 => ?_)
    · have hF := iteT hF c_2
      refine lv_iconst (v := 0) hx hb dX3_hasBegun_16 (by decide) ?_
      exact g_iretR hx hb hr rfl hlocks hP hK hD hS dX3_hasBegun_17 hF
    · have hF := iteF hF c_2
      refine lv_iconst (v := 1) hx hb dX3_hasBegun_12 (by decide) ?_
      refine lv_goto (tgt := 17) hx hb dX3_hasBegun_13 (by decide) ?_
      exact g_iretR hx hb hr rfl hlocks hP hK hD hS dX3_hasBegun_17 hF
set_option maxHeartbeats 4000000 in
set_option maxRecDepth 100000 in
theorem tyc_T_requireCall (l : Launch) (D : va_G) (ad : Nat → Nat) (cA : Nat → ClassId) (sz : Nat) (σ : tyS) (p1 : Int32) (res : tyX) (hl9 : l.stackTraces = false) (hF : tyf_T_requireCall σ p1 = some res) : gXv gStr l yX4_requireCall wsX4_requireCall ({ frames := 6, cells := 1, slots := 6, locals := 82 } : Room) D (wC ad cA) (tC cA) [.ref (ad 0), .int p1] sz σ res := by
  refine ty_ofW (cc := cX4_requireCall) (maxL := 2) (ret := none) (by decide) rfl ?_
  intro p e s m args below meth c s₁ B hml ht9 hv
  obtain ⟨rfl, ⟨hsz, hP, hK, hD0, hNN⟩, hOK⟩ := hv
  have hx := B.exec
  have hb := B.bytes
  have hr := B.returns
  have hts := atoms_spec (ws := wsX4_requireCall) B.pre
  have hown : s.vm.findClass RX4 = some m.cls := findClass_of_methodNamed B.named
  have hlocks := B.notSynchronized
  subst hsz
  have hD := hD0.self (sz := s.heap.size)
  generalize hAe : va_A (wC ad cA σ) s.heap.size = A at hD hOK ⊢
  have hA : ∀ q : Nat, s.heap.size ≤ q → A q := fun q h => by rw [← hAe]; exact Or.inr h
  clear hAe hD0
  have hS : va_S A s.heap s.heap [] := va_S.rf
  have hl := lv_entry ([.ref (ad 0), .int p1]) (n := 2) (Nat.le_of_ble_eq_true rfl)
  rw [lg_entry_eq]
  generalize (lg_sl ([.ref (ad 0), .int p1]) ++ List.replicate (2 - (lg_sl ([.ref (ad 0), .int p1])).length) Slot.unset).toArray = ls at hl ⊢
  have hl : lv_has ls 2 [(0, .ref (ad 0)), (1, .int p1)] := hl
  have hS9 : CallFix p m c cX4_requireCall 2 s _ wsX4_requireCall RX4 := ⟨hx, hb, hml, hown, hts⟩
  have hw0 := hts (.fieldLink RX4 36 "TrunkYards" "board" "LTrunkYards$Switchboard;") (List.mem_cons_of_mem _ (List.mem_of_getElem? (i := 2) rfl))
  have hiX4 : ∀ w ∈ wsX40, w ∈ wsX4_requireCall := fun w h => List.mem_cons_of_mem _ (List.mem_append_left _ (List.mem_append_left _ (List.mem_append_right _ h)))
  have hw2 := hts (.classLink RX4 261 "java/lang/IndexOutOfBoundsException") (List.mem_cons_of_mem _ (List.mem_of_getElem? (i := 0) rfl))
  have hw3 := hts (.initialized "java/lang/IndexOutOfBoundsException") (List.mem_cons_of_mem _ (List.mem_of_getElem? (i := 1) rfl))
  unfold tyf_T_requireCall at hF
  refine lv_aload_n hx hb dX4_requireCall_0 rfl (lv_at hl 0 rfl) ?_
  refine va_get (D := D) (ci := 4) (v := .ref (ad 5)) (C := RX4) (T := TX4) (N := 12) hx hb hts hiX4 hown hK hP 0 (wC_0 ad cA σ) rfl 4 (by decide) hw0 (fun _ h9 => h9) rfl dX4_requireCall_1 ?_
  refine lv_iload_n hx hb dX4_requireCall_4 rfl (lv_at hl 1 rfl) ?_
  obtain ⟨r1, er1, hF⟩ := bR_some hF
  refine gc_Vi (As := [.int p1]) hS9 (tyc_B_hasBegun l D ad cA _ σ p1 r1 er1) (cwV 1 hts gX4_requireCall_X3_hasBegun rfl rfl rfl hd_X3_hasBegun ⟨by decide, by decide⟩) hK hP hD hS hA hNN (ci := 3) (q0 := 5) (N := 9) rfl (wC_5 ad cA σ) rfl hl.1 rfl (Nat.le_of_ble_eq_true rfl) dX4_requireCall_5 (fun H locs hP hD hS => ?_)
  refine lv_if_ne (tgt := 22) hx hb dX4_requireCall_8 (by decide) (fun c_2 => ?_) (fun c_2 => ?_)
  · have hF := iteF hF c_2
    exact g_vretX hx hb hr hlocks hP hK hD hS dX4_requireCall_22 hF
  · have hF := iteT hF c_2
    exact gx_throwSW (own := RX4) (cls := "java/lang/IndexOutOfBoundsException") (text := "there never was such a call") (k := 2) hx hb hl9 hown rfl (by decide +kernel) hw2 hw3 (fun w h => hts w (List.mem_cons_of_mem _ (List.mem_append_right _ h))) gnoX4_265 ggdX4_261_265 hOK (List.mem_of_getElem? (i := 29) rfl) (by rw [hml]; exact hl.1) ht9 hlocks hP hK hD hS dX4_requireCall_11 dX4_requireCall_14 dX4_requireCall_15 dX4_requireCall_18 dX4_requireCall_21 ⟨by decide, by decide, by decide, by decide⟩ hF
set_option maxHeartbeats 4000000 in
set_option maxRecDepth 100000 in
theorem tyc_B_goesOn (l : Launch) (D : va_G) (ad : Nat → Nat) (cA : Nat → ClassId) (sz : Nat) (σ : tyS) (p1 : Int32) (r : Int32) (hF : tyf_B_goesOn σ p1 = some r) : gMi l yX3_goesOn wsX3_goesOn ({ frames := 0, cells := 0, slots := 0, locals := 0 } : Room) D (wC ad cA) (tC cA) [.ref (ad 5), .int p1] sz σ r σ := by
  refine Met.ofW (cc := cX3_goesOn) (maxL := 2) (ret := (some .boolean)) (by decide) rfl ?_
  intro p e s m args below meth c s₁ B hml hv
  obtain ⟨rfl, hsz, hP, hK, hD0, hNN⟩ := hv
  have hx := B.exec
  have hb := B.bytes
  have hr := B.returns
  have hts := atoms_spec (ws := wsX3_goesOn) B.pre
  have hown : s.vm.findClass RX3 = some m.cls := findClass_of_methodNamed B.named
  have hlocks := B.notSynchronized
  subst hsz
  have hD := hD0.self (sz := s.heap.size)
  generalize hAe : va_A (wC ad cA σ) s.heap.size = A at hD ⊢
  have hA : ∀ q : Nat, s.heap.size ≤ q → A q := fun q h => by rw [← hAe]; exact Or.inr h
  clear hAe hD0
  have hS : va_S A s.heap s.heap [] := va_S.rf
  have hl := lv_entry ([.ref (ad 5), .int p1]) (n := 2) (Nat.le_of_ble_eq_true rfl)
  rw [lg_entry_eq]
  generalize (lg_sl ([.ref (ad 5), .int p1]) ++ List.replicate (2 - (lg_sl ([.ref (ad 5), .int p1])).length) Slot.unset).toArray = ls at hl ⊢
  have hl : lv_has ls 2 [(0, .ref (ad 5)), (1, .int p1)] := hl
  have hw0 := hts (.fieldLink RX3 27 "TrunkYards$Switchboard" "ongoingCalls" "[I") (List.mem_cons_of_mem _ (List.mem_of_getElem? (i := 0) rfl))
  have hiX3 : ∀ w ∈ wsX30, w ∈ wsX3_goesOn := fun w h => List.mem_cons_of_mem _ (List.mem_append_right _ h)
  have hw2 := hts (.fieldLink RX3 9 "TrunkYards$Switchboard" "customers" "[I") (List.mem_cons_of_mem _ (List.mem_of_getElem? (i := 1) rfl))
  unfold tyf_B_goesOn at hF
  refine lv_aload_n hx hb dX3_goesOn_0 rfl (lv_at hl 0 rfl) ?_
  refine va_get (D := D) (ci := 3) (v := .ref (ad 26)) (C := RX3) (T := TX3) (N := 9) hx hb hts hiX3 hown hK hP 5 (wC_5 ad cA σ) rfl 5 (by decide) hw0 (fun _ h9 => h9) rfl dX3_goesOn_1 ?_
  refine lv_aload_n hx hb dX3_goesOn_4 rfl (lv_at hl 0 rfl) ?_
  refine va_get (D := D) (ci := 3) (v := .ref (ad 21)) (C := RX3) (T := TX3) (N := 9) hx hb hts hiX3 hown hK hP 5 (wC_5 ad cA σ) rfl 0 (by decide) hw2 (fun _ h9 => h9) rfl dX3_goesOn_5 ?_
  refine lv_iload_n hx hb dX3_goesOn_8 rfl (lv_at hl 1 rfl) ?_
  obtain ⟨hb_1, hF⟩ := chk_some hF
  refine va_iald hx hb hK hP 21 15 (wC_21 ad cA σ) (tC_21 cA) hb_1 dX3_goesOn_9 ?_
  obtain ⟨hb_2, hF⟩ := chk_some hF
  refine va_iald hx hb hK hP 26 20 (wC_26 ad cA σ) (tC_26 cA) hb_2 dX3_goesOn_10 ?_
  refine lv_iload_n hx hb dX3_goesOn_11 rfl (lv_at hl 1 rfl) ?_
  refine lv_icmp_ne (tgt := 19) hx hb dX3_goesOn_12 (by decide) (fun c_3 => ?_) (fun c_3 => ?_)
  · have hF := iteF hF c_3
    refine lv_iconst (v := 0) hx hb dX3_goesOn_19 (by decide) ?_
    exact g_iretR hx hb hr rfl hlocks hP hK hD hS dX3_goesOn_20 hF
  · have hF := iteT hF c_3
    refine lv_iconst (v := 1) hx hb dX3_goesOn_15 (by decide) ?_
    refine lv_goto (tgt := 20) hx hb dX3_goesOn_16 (by decide) ?_
    exact g_iretR hx hb hr rfl hlocks hP hK hD hS dX3_goesOn_20 hF
set_option maxHeartbeats 4000000 in
set_option maxRecDepth 100000 in
theorem tyc_T_requireOngoing (l : Launch) (D : va_G) (ad : Nat → Nat) (cA : Nat → ClassId) (sz : Nat) (σ : tyS) (p1 : Int32) (res : tyX) (hl9 : l.stackTraces = false) (hF : tyf_T_requireOngoing σ p1 = some res) : gXv gStr l yX4_requireOngoing wsX4_requireOngoing ({ frames := 6, cells := 1, slots := 6, locals := 82 } : Room) D (wC ad cA) (tC cA) [.ref (ad 0), .int p1] sz σ res := by
  refine ty_ofW (cc := cX4_requireOngoing) (maxL := 2) (ret := none) (by decide) rfl ?_
  intro p e s m args below meth c s₁ B hml ht9 hv
  obtain ⟨rfl, ⟨hsz, hP, hK, hD0, hNN⟩, hOK⟩ := hv
  have hx := B.exec
  have hb := B.bytes
  have hr := B.returns
  have hts := atoms_spec (ws := wsX4_requireOngoing) B.pre
  have hown : s.vm.findClass RX4 = some m.cls := findClass_of_methodNamed B.named
  have hlocks := B.notSynchronized
  subst hsz
  have hD := hD0.self (sz := s.heap.size)
  generalize hAe : va_A (wC ad cA σ) s.heap.size = A at hD hOK ⊢
  have hA : ∀ q : Nat, s.heap.size ≤ q → A q := fun q h => by rw [← hAe]; exact Or.inr h
  clear hAe hD0
  have hS : va_S A s.heap s.heap [] := va_S.rf
  have hl := lv_entry ([.ref (ad 0), .int p1]) (n := 2) (Nat.le_of_ble_eq_true rfl)
  rw [lg_entry_eq]
  generalize (lg_sl ([.ref (ad 0), .int p1]) ++ List.replicate (2 - (lg_sl ([.ref (ad 0), .int p1])).length) Slot.unset).toArray = ls at hl ⊢
  have hl : lv_has ls 2 [(0, .ref (ad 0)), (1, .int p1)] := hl
  have hS9 : CallFix p m c cX4_requireOngoing 2 s _ wsX4_requireOngoing RX4 := ⟨hx, hb, hml, hown, hts⟩
  have hw0 := hts (.fieldLink RX4 36 "TrunkYards" "board" "LTrunkYards$Switchboard;") (List.mem_cons_of_mem _ (List.mem_of_getElem? (i := 2) rfl))
  have hiX4 : ∀ w ∈ wsX40, w ∈ wsX4_requireOngoing := fun w h => List.mem_cons_of_mem _ (List.mem_append_left _ (List.mem_append_left _ (List.mem_append_right _ h)))
  have hw2 := hts (.classLink RX4 73 "java/lang/IllegalStateException") (List.mem_cons_of_mem _ (List.mem_of_getElem? (i := 0) rfl))
  have hw3 := hts (.initialized "java/lang/IllegalStateException") (List.mem_cons_of_mem _ (List.mem_of_getElem? (i := 1) rfl))
  unfold tyf_T_requireOngoing at hF
  refine lv_aload_n hx hb dX4_requireOngoing_0 rfl (lv_at hl 0 rfl) ?_
  refine va_get (D := D) (ci := 4) (v := .ref (ad 5)) (C := RX4) (T := TX4) (N := 12) hx hb hts hiX4 hown hK hP 0 (wC_0 ad cA σ) rfl 4 (by decide) hw0 (fun _ h9 => h9) rfl dX4_requireOngoing_1 ?_
  refine lv_iload_n hx hb dX4_requireOngoing_4 rfl (lv_at hl 1 rfl) ?_
  obtain ⟨r1, er1, hF⟩ := bR_some hF
  refine gc_Vi (As := [.int p1]) hS9 (tyc_B_goesOn l D ad cA _ σ p1 r1 er1) (cwV 1 hts gX4_requireOngoing_X3_goesOn rfl rfl rfl hd_X3_goesOn ⟨by decide, by decide⟩) hK hP hD hS hA hNN (ci := 3) (q0 := 5) (N := 9) rfl (wC_5 ad cA σ) rfl hl.1 rfl (Nat.le_of_ble_eq_true rfl) dX4_requireOngoing_5 (fun H locs hP hD hS => ?_)
  refine lv_if_ne (tgt := 22) hx hb dX4_requireOngoing_8 (by decide) (fun c_2 => ?_) (fun c_2 => ?_)
  · have hF := iteF hF c_2
    exact g_vretX hx hb hr hlocks hP hK hD hS dX4_requireOngoing_22 hF
  · have hF := iteT hF c_2
    exact gx_throwSW (own := RX4) (cls := "java/lang/IllegalStateException") (text := "the call does not go on") (k := 1) hx hb hl9 hown rfl (by decide +kernel) hw2 hw3 (fun w h => hts w (List.mem_cons_of_mem _ (List.mem_append_right _ h))) gnoX4_77 ggdX4_73_77 hOK (List.mem_of_getElem? (i := 30) rfl) (by rw [hml]; exact hl.1) ht9 hlocks hP hK hD hS dX4_requireOngoing_11 dX4_requireOngoing_14 dX4_requireOngoing_15 dX4_requireOngoing_18 dX4_requireOngoing_21 ⟨by decide, by decide, by decide, by decide⟩ hF
set_option maxHeartbeats 4000000 in
set_option maxRecDepth 100000 in
theorem tyc_B_openBooking (l : Launch) (D : va_G) (ad : Nat → Nat) (cA : Nat → ClassId) (sz : Nat) (σ : tyS) (p1 : Int32) (r : Int32) (hF : tyf_B_openBooking σ p1 = some r) : gMi l yX3_openBooking wsX3_openBooking ({ frames := 0, cells := 0, slots := 0, locals := 0 } : Room) D (wC ad cA) (tC cA) [.ref (ad 5), .int p1] sz σ r σ := by
  refine Met.ofW (cc := cX3_openBooking) (maxL := 2) (ret := (some .int)) (by decide) rfl ?_
  intro p e s m args below meth c s₁ B hml hv
  obtain ⟨rfl, hsz, hP, hK, hD0, hNN⟩ := hv
  have hx := B.exec
  have hb := B.bytes
  have hr := B.returns
  have hts := atoms_spec (ws := wsX3_openBooking) B.pre
  have hown : s.vm.findClass RX3 = some m.cls := findClass_of_methodNamed B.named
  have hlocks := B.notSynchronized
  subst hsz
  have hD := hD0.self (sz := s.heap.size)
  generalize hAe : va_A (wC ad cA σ) s.heap.size = A at hD ⊢
  have hA : ∀ q : Nat, s.heap.size ≤ q → A q := fun q h => by rw [← hAe]; exact Or.inr h
  clear hAe hD0
  have hS : va_S A s.heap s.heap [] := va_S.rf
  have hl := lv_entry ([.ref (ad 5), .int p1]) (n := 2) (Nat.le_of_ble_eq_true rfl)
  rw [lg_entry_eq]
  generalize (lg_sl ([.ref (ad 5), .int p1]) ++ List.replicate (2 - (lg_sl ([.ref (ad 5), .int p1])).length) Slot.unset).toArray = ls at hl ⊢
  have hl : lv_has ls 2 [(0, .ref (ad 5)), (1, .int p1)] := hl
  have hw0 := hts (.fieldLink RX3 18 "TrunkYards$Switchboard" "openBookings" "[I") (List.mem_cons_of_mem _ (List.mem_of_getElem? (i := 0) rfl))
  have hiX3 : ∀ w ∈ wsX30, w ∈ wsX3_openBooking := fun w h => List.mem_cons_of_mem _ (List.mem_append_right _ h)
  unfold tyf_B_openBooking at hF
  refine lv_aload_n hx hb dX3_openBooking_0 rfl (lv_at hl 0 rfl) ?_
  refine va_get (D := D) (ci := 3) (v := .ref (ad 23)) (C := RX3) (T := TX3) (N := 9) hx hb hts hiX3 hown hK hP 5 (wC_5 ad cA σ) rfl 2 (by decide) hw0 (fun _ h9 => h9) rfl dX3_openBooking_1 ?_
  refine lv_iload_n hx hb dX3_openBooking_4 rfl (lv_at hl 1 rfl) ?_
  obtain ⟨hb_1, hF⟩ := chk_some hF
  refine va_iald hx hb hK hP 23 17 (wC_23 ad cA σ) (tC_23 cA) hb_1 dX3_openBooking_5 ?_
  exact g_iretR hx hb hr rfl hlocks hP hK hD hS dX3_openBooking_6 hF
set_option maxHeartbeats 4000000 in
set_option maxRecDepth 100000 in
theorem tyc_L_grain (l : Launch) (D : va_G) (ad : Nat → Nat) (cA : Nat → ClassId) (sz : Nat) (σ : tyS) (p1 : Int32) (r : Int32) (hF : tyf_L_grain σ p1 = some r) : gMi l yX1_grain wsX1_grain ({ frames := 0, cells := 0, slots := 0, locals := 0 } : Room) D (wC ad cA) (tC cA) [.ref (ad 4), .int p1] sz σ r σ := by
  refine Met.ofW (cc := cX1_grain) (maxL := 2) (ret := (some .int)) (by decide) rfl ?_
  intro p e s m args below meth c s₁ B hml hv
  obtain ⟨rfl, hsz, hP, hK, hD0, hNN⟩ := hv
  have hx := B.exec
  have hb := B.bytes
  have hr := B.returns
  have hts := atoms_spec (ws := wsX1_grain) B.pre
  have hown : s.vm.findClass RX1 = some m.cls := findClass_of_methodNamed B.named
  have hlocks := B.notSynchronized
  subst hsz
  have hD := hD0.self (sz := s.heap.size)
  generalize hAe : va_A (wC ad cA σ) s.heap.size = A at hD ⊢
  have hA : ∀ q : Nat, s.heap.size ≤ q → A q := fun q h => by rw [← hAe]; exact Or.inr h
  clear hAe hD0
  have hS : va_S A s.heap s.heap [] := va_S.rf
  have hl := lv_entry ([.ref (ad 4), .int p1]) (n := 2) (Nat.le_of_ble_eq_true rfl)
  rw [lg_entry_eq]
  generalize (lg_sl ([.ref (ad 4), .int p1]) ++ List.replicate (2 - (lg_sl ([.ref (ad 4), .int p1])).length) Slot.unset).toArray = ls at hl ⊢
  have hl : lv_has ls 2 [(0, .ref (ad 4)), (1, .int p1)] := hl
  have hw0 := hts (.fieldLink RX1 18 "TrunkYards$Ledger" "grains" "[I") (List.mem_cons_of_mem _ (List.mem_of_getElem? (i := 0) rfl))
  have hiX1 : ∀ w ∈ wsX10, w ∈ wsX1_grain := fun w h => List.mem_cons_of_mem _ (List.mem_append_right _ h)
  unfold tyf_L_grain at hF
  refine lv_aload_n hx hb dX1_grain_0 rfl (lv_at hl 0 rfl) ?_
  refine va_get (D := D) (ci := 1) (v := .ref (ad 15)) (C := RX1) (T := TX1) (N := 9) hx hb hts hiX1 hown hK hP 4 (wC_4 ad cA σ) rfl 2 (by decide) hw0 (fun _ h9 => h9) rfl dX1_grain_1 ?_
  refine lv_iload_n hx hb dX1_grain_4 rfl (lv_at hl 1 rfl) ?_
  obtain ⟨hb_1, hF⟩ := chk_some hF
  refine va_iald hx hb hK hP 15 9 (wC_15 ad cA σ) (tC_15 cA) hb_1 dX1_grain_5 ?_
  exact g_iretR hx hb hr rfl hlocks hP hK hD hS dX1_grain_6 hF
