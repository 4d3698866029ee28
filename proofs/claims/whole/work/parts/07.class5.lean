set_option maxHeartbeats 4000000 in
set_option maxRecDepth 100000 in
theorem tyc_T_isWithin (l : Launch) (D : va_G) (ad : Nat → Nat) (cA : Nat → ClassId) (sz : Nat) (σ : tyS) (p1 : Int32) (p2 : Int32) (p3 : Int32) (r : Int32) (hF : tyf_T_isWithin σ p1 p2 p3 = some r) : gMi l yX4_isWithin wsX4_isWithin ({ frames := 1, cells := 0, slots := 0, locals := 21 } : Room) D (wC ad cA) (tC cA) [.ref (ad 0), .int p1, .int p2, .int p3] sz σ r σ := by
  refine Met.ofW (cc := cX4_isWithin) (maxL := 4) (ret := (some .boolean)) (by decide) rfl ?_
  intro p e s m args below meth c s₁ B hml hv
  obtain ⟨rfl, hsz, hP, hK, hD0, hNN⟩ := hv
  have hx := B.exec
  have hb := B.bytes
  have hr := B.returns
  have hts := atoms_spec (ws := wsX4_isWithin) B.pre
  have hown : s.vm.findClass RX4 = some m.cls := findClass_of_methodNamed B.named
  have hlocks := B.notSynchronized
  subst hsz
  have hD := hD0.self (sz := s.heap.size)
  generalize hAe : va_A (wC ad cA σ) s.heap.size = A at hD ⊢
  have hA : ∀ q : Nat, s.heap.size ≤ q → A q := fun q h => by rw [← hAe]; exact Or.inr h
  clear hAe hD0
  have hS : va_S A s.heap s.heap [] := va_S.rf
  have hl := lv_entry ([.ref (ad 0), .int p1, .int p2, .int p3]) (n := 4) (Nat.le_of_ble_eq_true rfl)
  rw [lg_entry_eq]
  generalize (lg_sl ([.ref (ad 0), .int p1, .int p2, .int p3]) ++ List.replicate (4 - (lg_sl ([.ref (ad 0), .int p1, .int p2, .int p3])).length) Slot.unset).toArray = ls at hl ⊢
  have hl : lv_has ls 4 [(0, .ref (ad 0)), (1, .int p1), (2, .int p2), (3, .int p3)] := hl
  have hS9 : CallFix p m c cX4_isWithin 4 s _ wsX4_isWithin RX4 := ⟨hx, hb, hml, hown, hts⟩
  have hw0 := hts (.fieldLink RX4 29 "TrunkYards" "ledger" "LTrunkYards$Ledger;") (List.mem_cons_of_mem _ (List.mem_of_getElem? (i := 0) rfl))
  have hiX4 : ∀ w ∈ wsX40, w ∈ wsX4_isWithin := fun w h => List.mem_cons_of_mem _ (List.mem_append_left _ (List.mem_append_left _ (List.mem_append_right _ h)))
  have hw2 := hts (.fieldLink RX4 36 "TrunkYards" "board" "LTrunkYards$Switchboard;") (List.mem_cons_of_mem _ (List.mem_of_getElem? (i := 1) rfl))
  unfold tyf_T_isWithin at hF
  refine lv_aload_n hx hb dX4_isWithin_0 rfl (lv_at hl 0 rfl) ?_
  refine va_get (D := D) (ci := 4) (v := .ref (ad 4)) (C := RX4) (T := TX4) (N := 12) hx hb hts hiX4 hown hK hP 0 (wC_0 ad cA σ) rfl 3 (by decide) hw0 (fun _ h9 => h9) rfl dX4_isWithin_1 ?_
  refine lv_iload_n hx hb dX4_isWithin_4 rfl (lv_at hl 2 rfl) ?_
  obtain ⟨r1, er1, hF⟩ := bR_some hF
  refine gc_Vi (As := [.int p2]) hS9 (tyc_L_standing l D ad cA _ σ p2 r1 er1) (cwV 1 hts gX4_isWithin_X1_standing rfl rfl rfl hd_X1_standing ⟨by decide, by decide⟩) hK hP hD hS hA hNN (ci := 1) (q0 := 4) (N := 9) rfl (wC_4 ad cA σ) rfl hl.1 rfl (Nat.le_of_ble_eq_true rfl) dX4_isWithin_5 (fun H locs hP hD hS => ?_)
  refine lv_iload_n hx hb dX4_isWithin_8 rfl (lv_at hl 3 rfl) ?_
  refine lv_icmp_ne (tgt := 54) hx hb dX4_isWithin_9 (by decide) (fun c_2 => ?_) (fun c_2 => ?_)
  · have hF := iteF hF c_2
    refine lv_iconst (v := 0) hx hb dX4_isWithin_54 (by decide) ?_
    exact g_iretR hx hb hr rfl hlocks hP hK hD hS dX4_isWithin_55 hF
  · have hF := iteT hF c_2
    refine lv_aload_n hx hb dX4_isWithin_12 rfl (lv_at hl 0 rfl) ?_
    refine va_get (D := D) (ci := 4) (v := .ref (ad 4)) (C := RX4) (T := TX4) (N := 12) hx hb hts hiX4 hown hK hP 0 (wC_0 ad cA σ) rfl 3 (by decide) hw0 (fun _ h9 => h9) rfl dX4_isWithin_13 ?_
    refine lv_iload_n hx hb dX4_isWithin_16 rfl (lv_at hl 2 rfl) ?_
    obtain ⟨r3, er3, hF⟩ := bR_some hF
    refine gc_Vi (As := [.int p2]) hS9 (tyc_L_customer l D ad cA _ σ p2 r3 er3) (cwV 1 hts gX4_isWithin_X1_customer rfl rfl rfl hd_X1_customer ⟨by decide, by decide⟩) hK hP hD hS hA hNN (ci := 1) (q0 := 4) (N := 9) rfl (wC_4 ad cA σ) rfl hl.1 rfl (Nat.le_of_ble_eq_true rfl) dX4_isWithin_17 (fun H locs hP hD hS => ?_)
    refine lv_aload_n hx hb dX4_isWithin_20 rfl (lv_at hl 0 rfl) ?_
    refine va_get (D := D) (ci := 4) (v := .ref (ad 5)) (C := RX4) (T := TX4) (N := 12) hx hb hts hiX4 hown hK hP 0 (wC_0 ad cA σ) rfl 4 (by decide) hw2 (fun _ h9 => h9) rfl dX4_isWithin_21 ?_
    refine lv_iload_n hx hb dX4_isWithin_24 rfl (lv_at hl 1 rfl) ?_
    obtain ⟨r4, er4, hF⟩ := bR_some hF
    refine gc_Vi (As := [.int p1]) hS9 (tyc_B_customer l D ad cA _ σ p1 r4 er4) (cwV 1 hts gX4_isWithin_X3_customer rfl rfl rfl hd_X3_customer ⟨by decide, by decide⟩) hK hP hD hS hA hNN (ci := 3) (q0 := 5) (N := 9) rfl (wC_5 ad cA σ) rfl hl.1 rfl (Nat.le_of_ble_eq_true rfl) dX4_isWithin_25 (fun H locs hP hD hS => ?_)
    refine lv_icmp_ne (tgt := 54) hx hb dX4_isWithin_28 (by decide) (fun c_5 => ?_) (fun c_5 => ?_)
    · have hF := iteF hF c_5
      refine lv_iconst (v := 0) hx hb dX4_isWithin_54 (by decide) ?_
      exact g_iretR hx hb hr rfl hlocks hP hK hD hS dX4_isWithin_55 hF
    · have hF := iteT hF c_5
      refine lv_aload_n hx hb dX4_isWithin_31 rfl (lv_at hl 0 rfl) ?_
      refine va_get (D := D) (ci := 4) (v := .ref (ad 4)) (C := RX4) (T := TX4) (N := 12) hx hb hts hiX4 hown hK hP 0 (wC_0 ad cA σ) rfl 3 (by decide) hw0 (fun _ h9 => h9) rfl dX4_isWithin_32 ?_
      refine lv_iload_n hx hb dX4_isWithin_35 rfl (lv_at hl 2 rfl) ?_
      obtain ⟨r6, er6, hF⟩ := bR_some hF
      refine gc_Vi (As := [.int p2]) hS9 (tyc_L_yard l D ad cA _ σ p2 r6 er6) (cwV 1 hts gX4_isWithin_X1_yard rfl rfl rfl hd_X1_yard ⟨by decide, by decide⟩) hK hP hD hS hA hNN (ci := 1) (q0 := 4) (N := 9) rfl (wC_4 ad cA σ) rfl hl.1 rfl (Nat.le_of_ble_eq_true rfl) dX4_isWithin_36 (fun H locs hP hD hS => ?_)
      refine lv_aload_n hx hb dX4_isWithin_39 rfl (lv_at hl 0 rfl) ?_
      refine va_get (D := D) (ci := 4) (v := .ref (ad 5)) (C := RX4) (T := TX4) (N := 12) hx hb hts hiX4 hown hK hP 0 (wC_0 ad cA σ) rfl 4 (by decide) hw2 (fun _ h9 => h9) rfl dX4_isWithin_40 ?_
      refine lv_iload_n hx hb dX4_isWithin_43 rfl (lv_at hl 1 rfl) ?_
      obtain ⟨r7, er7, hF⟩ := bR_some hF
      refine gc_Vi (As := [.int p1]) hS9 (tyc_B_yard l D ad cA _ σ p1 r7 er7) (cwV 1 hts gX4_isWithin_X3_yard rfl rfl rfl hd_X3_yard ⟨by decide, by decide⟩) hK hP hD hS hA hNN (ci := 3) (q0 := 5) (N := 9) rfl (wC_5 ad cA σ) rfl hl.1 rfl (Nat.le_of_ble_eq_true rfl) dX4_isWithin_44 (fun H locs hP hD hS => ?_)
      refine lv_icmp_ne (tgt := 54) hx hb dX4_isWithin_47 (by decide) (fun c_8 => ?_) (fun c_8 => ?_)
      · have hF := iteF hF c_8
        refine lv_iconst (v := 0) hx hb dX4_isWithin_54 (by decide) ?_
        exact g_iretR hx hb hr rfl hlocks hP hK hD hS dX4_isWithin_55 hF
      · have hF := iteT hF c_8
        refine lv_iconst (v := 1) hx hb dX4_isWithin_50 (by decide) ?_
        refine lv_goto (tgt := 55) hx hb dX4_isWithin_51 (by decide) ?_
        exact g_iretR hx hb hr rfl hlocks hP hK hD hS dX4_isWithin_55 hF
set_option maxHeartbeats 4000000 in
set_option maxRecDepth 100000 in
theorem tyc_L_size (l : Launch) (D : va_G) (ad : Nat → Nat) (cA : Nat → ClassId) (sz : Nat) (σ : tyS) (p1 : Int32) (r : Int32) (hF : tyf_L_size σ p1 = some r) : gMi l yX1_size wsX1_size ({ frames := 0, cells := 0, slots := 0, locals := 0 } : Room) D (wC ad cA) (tC cA) [.ref (ad 4), .int p1] sz σ r σ := by
  refine Met.ofW (cc := cX1_size) (maxL := 2) (ret := (some .int)) (by decide) rfl ?_
  intro p e s m args below meth c s₁ B hml hv
  obtain ⟨rfl, hsz, hP, hK, hD0, hNN⟩ := hv
  have hx := B.exec
  have hb := B.bytes
  have hr := B.returns
  have hts := atoms_spec (ws := wsX1_size) B.pre
  have hown : s.vm.findClass RX1 = some m.cls := findClass_of_methodNamed B.named
  have hlocks := B.notSynchronized
  subst hsz
  have hD := hD0.self (sz := s.heap.size)
  generalize hAe : va_A (wC ad cA σ) s.heap.size = A at hD ⊢
  have hA : ∀ q : Nat, s.heap.size ≤ q → A q := fun q h => by rw [← hAe]; exact Or.inr h
  clear hAe hD0
  have hS : va_S A s.heap s.heap [] := va_S.rf
  have hl := lv_entry ([.ref (ad 4), .int p1]) (n := 2) (Nat.le_of_ble_eq_true rfl)
  rw [lg_entry_eq]
  generalize (lg_sl ([.ref (ad 4), .int p1]) ++ List.replicate (2 - (lg_sl ([.ref (ad 4), .int p1])).length) Slot.unset).toArray = ls at hl ⊢
  have hl : lv_has ls 2 [(0, .ref (ad 4)), (1, .int p1)] := hl
  have hw0 := hts (.fieldLink RX1 27 "TrunkYards$Ledger" "sizes" "[I") (List.mem_cons_of_mem _ (List.mem_of_getElem? (i := 0) rfl))
  have hiX1 : ∀ w ∈ wsX10, w ∈ wsX1_size := fun w h => List.mem_cons_of_mem _ (List.mem_append_right _ h)
  unfold tyf_L_size at hF
  refine lv_aload_n hx hb dX1_size_0 rfl (lv_at hl 0 rfl) ?_
  refine va_get (D := D) (ci := 1) (v := .ref (ad 18)) (C := RX1) (T := TX1) (N := 9) hx hb hts hiX1 hown hK hP 4 (wC_4 ad cA σ) rfl 5 (by decide) hw0 (fun _ h9 => h9) rfl dX1_size_1 ?_
  refine lv_iload_n hx hb dX1_size_4 rfl (lv_at hl 1 rfl) ?_
  obtain ⟨hb_1, hF⟩ := chk_some hF
  refine va_iald hx hb hK hP 18 12 (wC_18 ad cA σ) (tC_18 cA) hb_1 dX1_size_5 ?_
  exact g_iretR hx hb hr rfl hlocks hP hK hD hS dX1_size_6 hF
set_option maxHeartbeats 4000000 in
set_option maxRecDepth 100000 in
theorem tyc_T_resume (l : Launch) (D : va_G) (ad : Nat → Nat) (cA : Nat → ClassId) (sz : Nat) (σ : tyS) (p1 : Int32) (p2 : Int32) (res : tyX) (hl9 : l.stackTraces = false) (hF : tyf_T_resume σ p1 p2 = some res) : gXi gStr l yX4_resume wsX4_resume ({ frames := 7, cells := 1, slots := 6, locals := 103 } : Room) D (wC ad cA) (tC cA) [.ref (ad 0), .int p1, .int p2] sz σ res := by
  refine ty_ofW (cc := cX4_resume) (maxL := 3) (ret := (some .int)) (by decide) rfl ?_
  intro p e s m args below meth c s₁ B hml ht9 hv
  obtain ⟨rfl, ⟨hsz, hP, hK, hD0, hNN⟩, hOK⟩ := hv
  have hx := B.exec
  have hb := B.bytes
  have hr := B.returns
  have hts := atoms_spec (ws := wsX4_resume) B.pre
  have hown : s.vm.findClass RX4 = some m.cls := findClass_of_methodNamed B.named
  have hlocks := B.notSynchronized
  subst hsz
  have hD := hD0.self (sz := s.heap.size)
  generalize hAe : va_A (wC ad cA σ) s.heap.size = A at hD hOK ⊢
  have hA : ∀ q : Nat, s.heap.size ≤ q → A q := fun q h => by rw [← hAe]; exact Or.inr h
  clear hAe hD0
  have hS : va_S A s.heap s.heap [] := va_S.rf
  have hl := lv_entry ([.ref (ad 0), .int p1, .int p2]) (n := 3) (Nat.le_of_ble_eq_true rfl)
  rw [lg_entry_eq]
  generalize (lg_sl ([.ref (ad 0), .int p1, .int p2]) ++ List.replicate (3 - (lg_sl ([.ref (ad 0), .int p1, .int p2])).length) Slot.unset).toArray = ls at hl ⊢
  have hl : lv_has ls 3 [(0, .ref (ad 0)), (1, .int p1), (2, .int p2)] := hl
  have hS9 : CallFix p m c cX4_resume 3 s _ wsX4_resume RX4 := ⟨hx, hb, hml, hown, hts⟩
  have hw0 := hts (.fieldLink RX4 36 "TrunkYards" "board" "LTrunkYards$Switchboard;") (List.mem_cons_of_mem _ (List.mem_of_getElem? (i := 2) rfl))
  have hiX4 : ∀ w ∈ wsX40, w ∈ wsX4_resume := fun w h => List.mem_cons_of_mem _ (List.mem_append_left _ (List.mem_append_left _ (List.mem_append_left _ (List.mem_append_left _ (List.mem_append_right _ h)))))
  have hw2 := hts (.classLink RX4 73 "java/lang/IllegalStateException") (List.mem_cons_of_mem _ (List.mem_of_getElem? (i := 0) rfl))
  have hw3 := hts (.initialized "java/lang/IllegalStateException") (List.mem_cons_of_mem _ (List.mem_of_getElem? (i := 1) rfl))
  have hw4 := hts (.fieldLink RX4 29 "TrunkYards" "ledger" "LTrunkYards$Ledger;") (List.mem_cons_of_mem _ (List.mem_of_getElem? (i := 3) rfl))
  unfold tyf_T_resume at hF
  refine lv_aload_n hx hb dX4_resume_0 rfl (lv_at hl 0 rfl) ?_
  refine lv_iload_n hx hb dX4_resume_1 rfl (lv_at hl 1 rfl) ?_
  rcases bX_some hF with ⟨kr2, r2, σ1, er2, hF⟩ | ⟨r2, σ1, er2, hF⟩
  · exact gx_T (gx_runV (As := [.int p1]) (Qc := gQXv D (wC ad cA) (tC cA) _ _) hS9 (tyc_T_requireCall l D ad cA _ σ p1 _ hl9 er2) (cwV 1 hts gX4_resume_X4_requireCall rfl rfl rfl hd_X4_requireCall ⟨by decide, by decide⟩) hOK hK hP hD hS hA hNN (ci := 4) (q0 := 0) (N := 12) rfl (wC_0 ad cA σ) rfl hl.1 rfl (Nat.le_of_ble_eq_true rfl) dX4_resume_2 ⟨by decide, by decide⟩) (gx_nov rfl) rfl hF ht9 hlocks hK hD hS hA
  refine gx_Rv (rest2 := (.ref (ad 0) :: [.int p1])) (gx_runV (As := [.int p1]) (Qc := gQXv D (wC ad cA) (tC cA) _ _) hS9 (tyc_T_requireCall l D ad cA _ σ p1 _ hl9 er2) (cwV 1 hts gX4_resume_X4_requireCall rfl rfl rfl hd_X4_requireCall ⟨by decide, by decide⟩) hOK hK hP hD hS hA hNN (ci := 4) (q0 := 0) (N := 12) rfl (wC_0 ad cA σ) rfl hl.1 rfl (Nat.le_of_ble_eq_true rfl) dX4_resume_2 ⟨by decide, by decide⟩) rfl hK hD hS hA (fun H locs hP hD hS => ?_)
  refine lv_aload_n hx hb dX4_resume_5 rfl (lv_at hl 0 rfl) ?_
  refine lv_iload_n hx hb dX4_resume_6 rfl (lv_at hl 2 rfl) ?_
  rcases bX_some hF with ⟨kr4, r4, σ3, er4, hF⟩ | ⟨r4, σ3, er4, hF⟩
  · exact gx_T (gx_runV (As := [.int p2]) (Qc := gQXv D (wC ad cA) (tC cA) _ _) hS9 (tyc_T_requireBooking l D ad cA _ σ1 p2 _ hl9 er4) (cwV 1 hts gX4_resume_X4_requireBooking rfl rfl rfl hd_X4_requireBooking ⟨by decide, by decide⟩) hOK hK hP hD hS hA hNN (ci := 4) (q0 := 0) (N := 12) rfl (wC_0 ad cA σ1) rfl hl.1 rfl (Nat.le_of_ble_eq_true rfl) dX4_resume_7 ⟨by decide, by decide⟩) (gx_nov rfl) rfl hF ht9 hlocks hK hD hS hA
  refine gx_Rv (rest2 := (.ref (ad 0) :: [.int p2])) (gx_runV (As := [.int p2]) (Qc := gQXv D (wC ad cA) (tC cA) _ _) hS9 (tyc_T_requireBooking l D ad cA _ σ1 p2 _ hl9 er4) (cwV 1 hts gX4_resume_X4_requireBooking rfl rfl rfl hd_X4_requireBooking ⟨by decide, by decide⟩) hOK hK hP hD hS hA hNN (ci := 4) (q0 := 0) (N := 12) rfl (wC_0 ad cA σ1) rfl hl.1 rfl (Nat.le_of_ble_eq_true rfl) dX4_resume_7 ⟨by decide, by decide⟩) rfl hK hD hS hA (fun H locs hP hD hS => ?_)
  refine lv_aload_n hx hb dX4_resume_10 rfl (lv_at hl 0 rfl) ?_
  refine lv_iload_n hx hb dX4_resume_11 rfl (lv_at hl 1 rfl) ?_
  rcases bX_some hF with ⟨kr6, r6, σ5, er6, hF⟩ | ⟨r6, σ5, er6, hF⟩
  · exact gx_T (gx_runV (As := [.int p1]) (Qc := gQXv D (wC ad cA) (tC cA) _ _) hS9 (tyc_T_requireOngoing l D ad cA _ σ3 p1 _ hl9 er6) (cwV 1 hts gX4_resume_X4_requireOngoing rfl rfl rfl hd_X4_requireOngoing ⟨by decide, by decide⟩) hOK hK hP hD hS hA hNN (ci := 4) (q0 := 0) (N := 12) rfl (wC_0 ad cA σ3) rfl hl.1 rfl (Nat.le_of_ble_eq_true rfl) dX4_resume_12 ⟨by decide, by decide⟩) (gx_nov rfl) rfl hF ht9 hlocks hK hD hS hA
  refine gx_Rv (rest2 := (.ref (ad 0) :: [.int p1])) (gx_runV (As := [.int p1]) (Qc := gQXv D (wC ad cA) (tC cA) _ _) hS9 (tyc_T_requireOngoing l D ad cA _ σ3 p1 _ hl9 er6) (cwV 1 hts gX4_resume_X4_requireOngoing rfl rfl rfl hd_X4_requireOngoing ⟨by decide, by decide⟩) hOK hK hP hD hS hA hNN (ci := 4) (q0 := 0) (N := 12) rfl (wC_0 ad cA σ3) rfl hl.1 rfl (Nat.le_of_ble_eq_true rfl) dX4_resume_12 ⟨by decide, by decide⟩) rfl hK hD hS hA (fun H locs hP hD hS => ?_)
  refine lv_aload_n hx hb dX4_resume_15 rfl (lv_at hl 0 rfl) ?_
  refine va_get (D := D) (ci := 4) (v := .ref (ad 5)) (C := RX4) (T := TX4) (N := 12) hx hb hts hiX4 hown hK hP 0 (wC_0 ad cA σ5) rfl 4 (by decide) hw0 (fun _ h9 => h9) rfl dX4_resume_16 ?_
  refine lv_iload_n hx hb dX4_resume_19 rfl (lv_at hl 1 rfl) ?_
  obtain ⟨r7, er7, hF⟩ := bR_some hF
  refine gc_Vi (As := [.int p1]) hS9 (tyc_B_openBooking l D ad cA _ σ5 p1 r7 er7) (cwV 1 hts gX4_resume_X3_openBooking rfl rfl rfl hd_X3_openBooking ⟨by decide, by decide⟩) hK hP hD hS hA hNN (ci := 3) (q0 := 5) (N := 9) rfl (wC_5 ad cA σ5) rfl hl.1 rfl (Nat.le_of_ble_eq_true rfl) dX4_resume_20 (fun H locs hP hD hS => ?_)
  refine lv_iconst (v := (-1)) hx hb dX4_resume_23 (by decide) ?_
  refine lv_icmp_ne (tgt := 37) hx hb dX4_resume_24 (by decide) (fun c_8 => ?_) (fun c_8 => ?_)
  · have hF := iteF hF c_8
    exact gx_throwS (own := RX4) (cls := "java/lang/IllegalStateException") (text := "the booking can\'t be taken up in this call") (k := 1) hx hb hl9 hown rfl (by decide +kernel) hw2 hw3 (fun w h => hts w (List.mem_cons_of_mem _ (List.mem_append_left _ (List.mem_append_right _ h)))) gnoX4_77 ggdX4_73_77 hOK (List.mem_of_getElem? (i := 9) rfl) (by rw [hml]; exact hl.1) ht9 hlocks hP hK hD hS dX4_resume_37 dX4_resume_40 dX4_resume_41 dX4_resume_43 dX4_resume_46 ⟨by decide, by decide, by decide, by decide⟩ hF
  · have hF := iteT hF c_8
    refine lv_aload_n hx hb dX4_resume_27 rfl (lv_at hl 0 rfl) ?_
    refine lv_iload_n hx hb dX4_resume_28 rfl (lv_at hl 1 rfl) ?_
    refine lv_iload_n hx hb dX4_resume_29 rfl (lv_at hl 2 rfl) ?_
    refine lv_iconst (v := 1) hx hb dX4_resume_30 (by decide) ?_
    obtain ⟨r9, er9, hF⟩ := bR_some hF
    refine gc_Vi (As := [.int p1, .int p2, .int 1]) hS9 (tyc_T_isWithin l D ad cA _ σ5 p1 p2 1 r9 er9) (cwV 3 hts gX4_resume_X4_isWithin rfl rfl rfl hd_X4_isWithin ⟨by decide, by decide⟩) hK hP hD hS hA hNN (ci := 4) (q0 := 0) (N := 12) rfl (wC_0 ad cA σ5) rfl hl.1 rfl (Nat.le_of_ble_eq_true rfl) dX4_resume_31 (fun H locs hP hD hS => ?_)
    refine lv_if_ne (tgt := 47) hx hb dX4_resume_34 (by decide) (fun c_10 => ?_) (fun c_10 => ?_)
    · have hF := iteF hF c_10
      refine lv_aload_n hx hb dX4_resume_47 rfl (lv_at hl 0 rfl) ?_
      refine va_get (D := D) (ci := 4) (v := .ref (ad 4)) (C := RX4) (T := TX4) (N := 12) hx hb hts hiX4 hown hK hP 0 (wC_0 ad cA σ5) rfl 3 (by decide) hw4 (fun _ h9 => h9) rfl dX4_resume_48 ?_
      refine lv_iload_n hx hb dX4_resume_51 rfl (lv_at hl 2 rfl) ?_
      refine lv_iconst (v := 0) hx hb dX4_resume_52 (by decide) ?_
      obtain ⟨σ11, e11, hF⟩ := bR_some hF
      refine gc_Vv (As := [.int p2, .int 0]) hS9 (tyc_L_keep l D ad cA _ σ5 p2 0 σ11 e11) (cwV 2 hts gX4_resume_X1_keep rfl rfl rfl hd_X1_keep ⟨by decide, by decide⟩) hK hP hD hS hA hNN (ci := 1) (q0 := 4) (N := 9) rfl (wC_4 ad cA σ5) rfl hl.1 rfl (Nat.le_of_ble_eq_true rfl) dX4_resume_53 (fun H locs hP hD hS => ?_)
      refine lv_aload_n hx hb dX4_resume_56 rfl (lv_at hl 0 rfl) ?_
      refine va_get (D := D) (ci := 4) (v := .ref (ad 5)) (C := RX4) (T := TX4) (N := 12) hx hb hts hiX4 hown hK hP 0 (wC_0 ad cA σ11) rfl 4 (by decide) hw0 (fun _ h9 => h9) rfl dX4_resume_57 ?_
      refine lv_iload_n hx hb dX4_resume_60 rfl (lv_at hl 1 rfl) ?_
      refine lv_iload_n hx hb dX4_resume_61 rfl (lv_at hl 2 rfl) ?_
      obtain ⟨σ12, e12, hF⟩ := bR_some hF
      refine gc_Vv (As := [.int p1, .int p2]) hS9 (tyc_B_setOpenBooking l D ad cA _ σ11 p1 p2 σ12 e12) (cwV 2 hts gX4_resume_X3_setOpenBooking rfl rfl rfl hd_X3_setOpenBooking ⟨by decide, by decide⟩) hK hP hD hS hA hNN (ci := 3) (q0 := 5) (N := 9) rfl (wC_5 ad cA σ11) rfl hl.1 rfl (Nat.le_of_ble_eq_true rfl) dX4_resume_62 (fun H locs hP hD hS => ?_)
      refine lv_aload_n hx hb dX4_resume_65 rfl (lv_at hl 0 rfl) ?_
      refine va_get (D := D) (ci := 4) (v := .ref (ad 4)) (C := RX4) (T := TX4) (N := 12) hx hb hts hiX4 hown hK hP 0 (wC_0 ad cA σ12) rfl 3 (by decide) hw4 (fun _ h9 => h9) rfl dX4_resume_66 ?_
      refine lv_iload_n hx hb dX4_resume_69 rfl (lv_at hl 2 rfl) ?_
      obtain ⟨r13, er13, hF⟩ := bR_some hF
      refine gc_Vi (As := [.int p2]) hS9 (tyc_L_size l D ad cA _ σ12 p2 r13 er13) (cwV 1 hts gX4_resume_X1_size rfl rfl rfl hd_X1_size ⟨by decide, by decide⟩) hK hP hD hS hA hNN (ci := 1) (q0 := 4) (N := 9) rfl (wC_4 ad cA σ12) rfl hl.1 rfl (Nat.le_of_ble_eq_true rfl) dX4_resume_70 (fun H locs hP hD hS => ?_)
      exact g_iretX hx hb hr rfl hlocks hP hK hD hS dX4_resume_73 hF
    · have hF := iteT hF c_10
      exact gx_throwS (own := RX4) (cls := "java/lang/IllegalStateException") (text := "the booking can\'t be taken up in this call") (k := 1) hx hb hl9 hown rfl (by decide +kernel) hw2 hw3 (fun w h => hts w (List.mem_cons_of_mem _ (List.mem_append_left _ (List.mem_append_right _ h)))) gnoX4_77 ggdX4_73_77 hOK (List.mem_of_getElem? (i := 9) rfl) (by rw [hml]; exact hl.1) ht9 hlocks hP hK hD hS dX4_resume_37 dX4_resume_40 dX4_resume_41 dX4_resume_43 dX4_resume_46 ⟨by decide, by decide, by decide, by decide⟩ hF
set_option maxHeartbeats 4000000 in
set_option maxRecDepth 100000 in
theorem tyc_L_get (l : Launch) (D : va_G) (ad : Nat → Nat) (cA : Nat → ClassId) (sz : Nat) (σ : tyS) (p1 : Int32) (p2 : Int32) (r : Int32) (hF : tyf_L_get σ p1 p2 = some r) : gMi l yX1_get wsX1_get ({ frames := 0, cells := 0, slots := 0, locals := 0 } : Room) D (wC ad cA) (tC cA) [.ref (ad 4), .int p1, .int p2] sz σ r σ := by
  refine Met.ofW (cc := cX1_get) (maxL := 3) (ret := (some .int)) (by decide) rfl ?_
  intro p e s m args below meth c s₁ B hml hv
  obtain ⟨rfl, hsz, hP, hK, hD0, hNN⟩ := hv
  have hx := B.exec
  have hb := B.bytes
  have hr := B.returns
  have hts := atoms_spec (ws := wsX1_get) B.pre
  have hown : s.vm.findClass RX1 = some m.cls := findClass_of_methodNamed B.named
  have hlocks := B.notSynchronized
  subst hsz
  have hD := hD0.self (sz := s.heap.size)
  generalize hAe : va_A (wC ad cA σ) s.heap.size = A at hD ⊢
  have hA : ∀ q : Nat, s.heap.size ≤ q → A q := fun q h => by rw [← hAe]; exact Or.inr h
  clear hAe hD0
  have hS : va_S A s.heap s.heap [] := va_S.rf
  have hl := lv_entry ([.ref (ad 4), .int p1, .int p2]) (n := 3) (Nat.le_of_ble_eq_true rfl)
  rw [lg_entry_eq]
  generalize (lg_sl ([.ref (ad 4), .int p1, .int p2]) ++ List.replicate (3 - (lg_sl ([.ref (ad 4), .int p1, .int p2])).length) Slot.unset).toArray = ls at hl ⊢
  have hl : lv_has ls 3 [(0, .ref (ad 4)), (1, .int p1), (2, .int p2)] := hl
  have hw0 := hts (.fieldLink RX1 30 "TrunkYards$Ledger" "booked" "[I") (List.mem_cons_of_mem _ (List.mem_of_getElem? (i := 0) rfl))
  have hiX1 : ∀ w ∈ wsX10, w ∈ wsX1_get := fun w h => List.mem_cons_of_mem _ (List.mem_append_right _ h)
  unfold tyf_L_get at hF
  refine lv_aload_n hx hb dX1_get_0 rfl (lv_at hl 0 rfl) ?_
  refine va_get (D := D) (ci := 1) (v := .ref (ad 19)) (C := RX1) (T := TX1) (N := 9) hx hb hts hiX1 hown hK hP 4 (wC_4 ad cA σ) rfl 6 (by decide) hw0 (fun _ h9 => h9) rfl dX1_get_1 ?_
  refine lv_iload_n hx hb dX1_get_4 rfl (lv_at hl 1 rfl) ?_
  refine lv_bipush (v := 30) hx hb dX1_get_5 (by decide) ?_
  refine lv_imul hx hb dX1_get_7 ?_
  refine lv_iload_n hx hb dX1_get_8 rfl (lv_at hl 2 rfl) ?_
  refine lv_iadd hx hb dX1_get_9 ?_
  obtain ⟨hb_1, hF⟩ := chk_some hF
  refine va_iald hx hb hK hP 19 13 (wC_19 ad cA σ) (tC_19 cA) hb_1 dX1_get_10 ?_
  exact g_iretR hx hb hr rfl hlocks hP hK hD hS dX1_get_11 hF
set_option maxHeartbeats 4000000 in
set_option maxRecDepth 100000 in
theorem tyc_L_release (l : Launch) (D : va_G) (ad : Nat → Nat) (cA : Nat → ClassId) (sz : Nat) (σ : tyS) (p1 : Int32) (p2 : Int32) (τ : tyS) (hF : tyf_L_release σ p1 p2 = some τ) : gMv l yX1_release wsX1_release ({ frames := 1, cells := 0, slots := 0, locals := 22 } : Room) D (wC ad cA) (tC cA) [.ref (ad 4), .int p1, .int p2] sz σ τ := by
  refine Met.ofW (cc := cX1_release) (maxL := 4) (ret := none) (by decide) rfl ?_
  intro p e s m args below meth c s₁ B hml hv
  obtain ⟨rfl, hsz, hP, hK, hD0, hNN⟩ := hv
  have hx := B.exec
  have hb := B.bytes
  have hr := B.returns
  have hts := atoms_spec (ws := wsX1_release) B.pre
  have hown : s.vm.findClass RX1 = some m.cls := findClass_of_methodNamed B.named
  have hlocks := B.notSynchronized
  subst hsz
  have hD := hD0.self (sz := s.heap.size)
  generalize hAe : va_A (wC ad cA σ) s.heap.size = A at hD ⊢
  have hA : ∀ q : Nat, s.heap.size ≤ q → A q := fun q h => by rw [← hAe]; exact Or.inr h
  clear hAe hD0
  have hS : va_S A s.heap s.heap [] := va_S.rf
  have hl := lv_entry ([.ref (ad 4), .int p1, .int p2]) (n := 4) (Nat.le_of_ble_eq_true rfl)
  rw [lg_entry_eq]
  generalize (lg_sl ([.ref (ad 4), .int p1, .int p2]) ++ List.replicate (4 - (lg_sl ([.ref (ad 4), .int p1, .int p2])).length) Slot.unset).toArray = ls at hl ⊢
  have hl : lv_has ls 4 [(0, .ref (ad 4)), (1, .int p1), (2, .int p2)] := hl
  have hS9 : CallFix p m c cX1_release 4 s _ wsX1_release RX1 := ⟨hx, hb, hml, hown, hts⟩
  have hw0 := hts (.fieldLink RX1 21 "TrunkYards$Ledger" "standings" "[I") (List.mem_cons_of_mem _ (List.mem_of_getElem? (i := 0) rfl))
  have hiX1 : ∀ w ∈ wsX10, w ∈ wsX1_release := fun w h => List.mem_cons_of_mem _ (List.mem_append_right _ h)
  have hw2 := hts (.fieldLink RX1 27 "TrunkYards$Ledger" "sizes" "[I") (List.mem_cons_of_mem _ (List.mem_of_getElem? (i := 1) rfl))
  have hw3 := hts (.fieldLink RX1 33 "TrunkYards$Ledger" "bookingOfWagon" "[I") (List.mem_cons_of_mem _ (List.mem_of_getElem? (i := 2) rfl))
  unfold tyf_L_release at hF
  refine lv_aload_n hx hb dX1_release_0 rfl (lv_at hl 0 rfl) ?_
  refine va_get (D := D) (ci := 1) (v := .ref (ad 16)) (C := RX1) (T := TX1) (N := 9) hx hb hts hiX1 hown hK hP 4 (wC_4 ad cA σ) rfl 3 (by decide) hw0 (fun _ h9 => h9) rfl dX1_release_1 ?_
  refine lv_iload_n hx hb dX1_release_4 rfl (lv_at hl 1 rfl) ?_
  refine lv_iload_n hx hb dX1_release_5 rfl (lv_at hl 2 rfl) ?_
  obtain ⟨hb_1, hF⟩ := chk_some hF
  obtain ⟨σ2, e2, hF⟩ := stp_some hF
  refine gw_iast hx hb hK hP hD hS (wC_16 ad cA σ) (tC_16 cA) (wCs_16 ad cA σ) hb_1 dX1_release_6 e2 (fun H locs hP hD hS => ?_)
  refine lv_iconst (v := 0) hx hb dX1_release_7 (by decide) ?_
  refine lv_istore_n (lv' := [(3, .int 0), (0, .ref (ad 4)), (1, .int p1), (2, .int p2)]) hx hb dX1_release_8 rfl hl (by decide) rfl (fun ls hl => ?_)
  have lp9 : ∀ (k : tyS → Int32 → Int32 → Int32 → Option tyS), (∀ (σ0 : tyS) (x1 : Int32) (x2 : Int32) (x3 : Int32) , k σ0 x1 x2 x3 = some τ → ∀ (H : Heap) (locs : List Loc) (ls : Array Slot), va_P D vwCl (wC ad cA σ0) H → va_D A (wC ad cA σ0) → va_S A s.heap H locs → lv_has ls 4 [(0, .ref (ad 4)), (1, .int x1), (2, .int x2), (3, .int x3)] → W p l e (headSpec wsX1_release ({ frames := 1, cells := 0, slots := 0, locals := 22 } : Room)).room s m #[.ref (ad 4), .int p1, .int p2] below meth c H locs 0 0 (MQ below (gQv D (wC ad cA) (tC cA) A τ) #[.ref (ad 4), .int p1, .int p2] s 0 0 A) (F0 m 37 ls [])) → ∀ (n : Nat), ∀ (σ0 : tyS) (x1 : Int32) (x2 : Int32) (x3 : Int32) , tyl_L_release_9 k n σ0 x1 x2 x3 = some τ → ∀ (H : Heap) (locs : List Loc) (ls : Array Slot), va_P D vwCl (wC ad cA σ0) H → va_D A (wC ad cA σ0) → va_S A s.heap H locs → lv_has ls 4 [(0, .ref (ad 4)), (1, .int x1), (2, .int x2), (3, .int x3)] → W p l e (headSpec wsX1_release ({ frames := 1, cells := 0, slots := 0, locals := 22 } : Room)).room s m #[.ref (ad 4), .int p1, .int p2] below meth c H locs 0 0 (MQ below (gQv D (wC ad cA) (tC cA) A τ) #[.ref (ad 4), .int p1, .int p2] s 0 0 A) (F0 m 9 ls []) := by
    intro k hk n
    induction n with
    | zero =>
      intro σ0 x1 x2 x3 hF
      exact absurd hF (fun h => nomatch h)
    | succ n ih =>
      intro σ0 x1 x2 x3 hF H locs ls hP hD hS hl
      have hF : tyb_L_release_9 k (tyl_L_release_9 k n) σ0 x1 x2 x3 = some τ := hF
      unfold tyb_L_release_9 at hF
      refine lv_iload_n hx hb dX1_release_9 rfl (lv_at hl 3 rfl) ?_
      refine lv_aload_n hx hb dX1_release_10 rfl (lv_at hl 0 rfl) ?_
      refine va_get (D := D) (ci := 1) (v := .ref (ad 18)) (C := RX1) (T := TX1) (N := 9) hx hb hts hiX1 hown hK hP 4 (wC_4 ad cA σ0) rfl 5 (by decide) hw2 (fun _ h9 => h9) rfl dX1_release_11 ?_
      refine lv_iload_n hx hb dX1_release_14 rfl (lv_at hl 1 rfl) ?_
      obtain ⟨hb_3, hF⟩ := chk_some hF
      refine va_iald hx hb hK hP 18 12 (wC_18 ad cA σ0) (tC_18 cA) hb_3 dX1_release_15 ?_
      refine lv_icmp_ge (tgt := 37) hx hb dX1_release_16 (by decide) (fun c_4 => ?_) (fun c_4 => ?_)
      · have hF := iteT hF c_4
        exact hk σ0 x1 x2 x3 hF _ _ _ hP hD hS (lv_sub hl [0, 1, 2, 3] rfl)
      · have hF := iteF hF c_4
        refine lv_aload_n hx hb dX1_release_19 rfl (lv_at hl 0 rfl) ?_
        refine va_get (D := D) (ci := 1) (v := .ref (ad 20)) (C := RX1) (T := TX1) (N := 9) hx hb hts hiX1 hown hK hP 4 (wC_4 ad cA σ0) rfl 7 (by decide) hw3 (fun _ h9 => h9) rfl dX1_release_20 ?_
        refine lv_aload_n hx hb dX1_release_23 rfl (lv_at hl 0 rfl) ?_
        refine lv_iload_n hx hb dX1_release_24 rfl (lv_at hl 1 rfl) ?_
        refine lv_iload_n hx hb dX1_release_25 rfl (lv_at hl 3 rfl) ?_
        obtain ⟨r5, er5, hF⟩ := bR_some hF
        refine gc_Vi (As := [.int x1, .int x3]) hS9 (tyc_L_get l D ad cA _ σ0 x1 x3 r5 er5) (cwV 2 hts gX1_release_X1_get rfl rfl rfl hd_X1_get ⟨by decide, by decide⟩) hK hP hD hS hA hNN (ci := 1) (q0 := 4) (N := 9) rfl (wC_4 ad cA σ0) rfl hl.1 rfl (Nat.le_of_ble_eq_true rfl) dX1_release_26 (fun H locs hP hD hS => ?_)
        refine lv_iconst (v := (-1)) hx hb dX1_release_29 (by decide) ?_
        obtain ⟨hb_6, hF⟩ := chk_some hF
        obtain ⟨σ7, e7, hF⟩ := stp_some hF
        refine gw_iast hx hb hK hP hD hS (wC_20 ad cA σ0) (tC_20 cA) (wCs_20 ad cA σ0) hb_6 dX1_release_30 e7 (fun H locs hP hD hS => ?_)
        refine lv_iinc (v := (x3 + 1)) (lv' := [(3, .int (x3 + 1)), (0, .ref (ad 4)), (1, .int x1), (2, .int x2)]) hx hb dX1_release_31 hl (k := 3) rfl rfl (by decide) rfl (fun ls hl => ?_)
        refine lv_goto (tgt := 9) hx hb dX1_release_34 (by decide) ?_
        exact ih σ7 x1 x2 (x3 + 1) hF _ _ _ hP hD hS (lv_sub hl [1, 2, 3, 0] rfl)
  refine lp9 _ ?_ 64 σ2 p1 p2 0 hF _ _ _ hP hD hS (lv_sub hl [1, 2, 3, 0] rfl)
  intro σ0 x1 x2 x3 hF H locs ls hP hD hS hl
  exact g_vretN hx hb hr hlocks hP hK hD hS dX1_release_37 hF
set_option maxHeartbeats 4000000 in
set_option maxRecDepth 100000 in
theorem tyc_T_cancel (l : Launch) (D : va_G) (ad : Nat → Nat) (cA : Nat → ClassId) (sz : Nat) (σ : tyS) (p1 : Int32) (p2 : Int32) (res : tyX) (hl9 : l.stackTraces = false) (hF : tyf_T_cancel σ p1 p2 = some res) : gXi gStr l yX4_cancel wsX4_cancel ({ frames := 7, cells := 1, slots := 6, locals := 103 } : Room) D (wC ad cA) (tC cA) [.ref (ad 0), .int p1, .int p2] sz σ res := by
  refine ty_ofW (cc := cX4_cancel) (maxL := 3) (ret := (some .int)) (by decide) rfl ?_
  intro p e s m args below meth c s₁ B hml ht9 hv
  obtain ⟨rfl, ⟨hsz, hP, hK, hD0, hNN⟩, hOK⟩ := hv
  have hx := B.exec
  have hb := B.bytes
  have hr := B.returns
  have hts := atoms_spec (ws := wsX4_cancel) B.pre
  have hown : s.vm.findClass RX4 = some m.cls := findClass_of_methodNamed B.named
  have hlocks := B.notSynchronized
  subst hsz
  have hD := hD0.self (sz := s.heap.size)
  generalize hAe : va_A (wC ad cA σ) s.heap.size = A at hD hOK ⊢
  have hA : ∀ q : Nat, s.heap.size ≤ q → A q := fun q h => by rw [← hAe]; exact Or.inr h
  clear hAe hD0
  have hS : va_S A s.heap s.heap [] := va_S.rf
  have hl := lv_entry ([.ref (ad 0), .int p1, .int p2]) (n := 3) (Nat.le_of_ble_eq_true rfl)
  rw [lg_entry_eq]
  generalize (lg_sl ([.ref (ad 0), .int p1, .int p2]) ++ List.replicate (3 - (lg_sl ([.ref (ad 0), .int p1, .int p2])).length) Slot.unset).toArray = ls at hl ⊢
  have hl : lv_has ls 3 [(0, .ref (ad 0)), (1, .int p1), (2, .int p2)] := hl
  have hS9 : CallFix p m c cX4_cancel 3 s _ wsX4_cancel RX4 := ⟨hx, hb, hml, hown, hts⟩
  have hw0 := hts (.fieldLink RX4 29 "TrunkYards" "ledger" "LTrunkYards$Ledger;") (List.mem_cons_of_mem _ (List.mem_of_getElem? (i := 2) rfl))
  have hiX4 : ∀ w ∈ wsX40, w ∈ wsX4_cancel := fun w h => List.mem_cons_of_mem _ (List.mem_append_left _ (List.mem_append_left _ (List.mem_append_left _ (List.mem_append_left _ (List.mem_append_right _ h)))))
  have hw2 := hts (.classLink RX4 73 "java/lang/IllegalStateException") (List.mem_cons_of_mem _ (List.mem_of_getElem? (i := 0) rfl))
  have hw3 := hts (.initialized "java/lang/IllegalStateException") (List.mem_cons_of_mem _ (List.mem_of_getElem? (i := 1) rfl))
  unfold tyf_T_cancel at hF
  refine lv_aload_n hx hb dX4_cancel_0 rfl (lv_at hl 0 rfl) ?_
  refine lv_iload_n hx hb dX4_cancel_1 rfl (lv_at hl 1 rfl) ?_
  rcases bX_some hF with ⟨kr2, r2, σ1, er2, hF⟩ | ⟨r2, σ1, er2, hF⟩
  · exact gx_T (gx_runV (As := [.int p1]) (Qc := gQXv D (wC ad cA) (tC cA) _ _) hS9 (tyc_T_requireCall l D ad cA _ σ p1 _ hl9 er2) (cwV 1 hts gX4_cancel_X4_requireCall rfl rfl rfl hd_X4_requireCall ⟨by decide, by decide⟩) hOK hK hP hD hS hA hNN (ci := 4) (q0 := 0) (N := 12) rfl (wC_0 ad cA σ) rfl hl.1 rfl (Nat.le_of_ble_eq_true rfl) dX4_cancel_2 ⟨by decide, by decide⟩) (gx_nov rfl) rfl hF ht9 hlocks hK hD hS hA
  refine gx_Rv (rest2 := (.ref (ad 0) :: [.int p1])) (gx_runV (As := [.int p1]) (Qc := gQXv D (wC ad cA) (tC cA) _ _) hS9 (tyc_T_requireCall l D ad cA _ σ p1 _ hl9 er2) (cwV 1 hts gX4_cancel_X4_requireCall rfl rfl rfl hd_X4_requireCall ⟨by decide, by decide⟩) hOK hK hP hD hS hA hNN (ci := 4) (q0 := 0) (N := 12) rfl (wC_0 ad cA σ) rfl hl.1 rfl (Nat.le_of_ble_eq_true rfl) dX4_cancel_2 ⟨by decide, by decide⟩) rfl hK hD hS hA (fun H locs hP hD hS => ?_)
  refine lv_aload_n hx hb dX4_cancel_5 rfl (lv_at hl 0 rfl) ?_
  refine lv_iload_n hx hb dX4_cancel_6 rfl (lv_at hl 2 rfl) ?_
  rcases bX_some hF with ⟨kr4, r4, σ3, er4, hF⟩ | ⟨r4, σ3, er4, hF⟩
  · exact gx_T (gx_runV (As := [.int p2]) (Qc := gQXv D (wC ad cA) (tC cA) _ _) hS9 (tyc_T_requireBooking l D ad cA _ σ1 p2 _ hl9 er4) (cwV 1 hts gX4_cancel_X4_requireBooking rfl rfl rfl hd_X4_requireBooking ⟨by decide, by decide⟩) hOK hK hP hD hS hA hNN (ci := 4) (q0 := 0) (N := 12) rfl (wC_0 ad cA σ1) rfl hl.1 rfl (Nat.le_of_ble_eq_true rfl) dX4_cancel_7 ⟨by decide, by decide⟩) (gx_nov rfl) rfl hF ht9 hlocks hK hD hS hA
  refine gx_Rv (rest2 := (.ref (ad 0) :: [.int p2])) (gx_runV (As := [.int p2]) (Qc := gQXv D (wC ad cA) (tC cA) _ _) hS9 (tyc_T_requireBooking l D ad cA _ σ1 p2 _ hl9 er4) (cwV 1 hts gX4_cancel_X4_requireBooking rfl rfl rfl hd_X4_requireBooking ⟨by decide, by decide⟩) hOK hK hP hD hS hA hNN (ci := 4) (q0 := 0) (N := 12) rfl (wC_0 ad cA σ1) rfl hl.1 rfl (Nat.le_of_ble_eq_true rfl) dX4_cancel_7 ⟨by decide, by decide⟩) rfl hK hD hS hA (fun H locs hP hD hS => ?_)
  refine lv_aload_n hx hb dX4_cancel_10 rfl (lv_at hl 0 rfl) ?_
  refine lv_iload_n hx hb dX4_cancel_11 rfl (lv_at hl 1 rfl) ?_
  rcases bX_some hF with ⟨kr6, r6, σ5, er6, hF⟩ | ⟨r6, σ5, er6, hF⟩
  · exact gx_T (gx_runV (As := [.int p1]) (Qc := gQXv D (wC ad cA) (tC cA) _ _) hS9 (tyc_T_requireOngoing l D ad cA _ σ3 p1 _ hl9 er6) (cwV 1 hts gX4_cancel_X4_requireOngoing rfl rfl rfl hd_X4_requireOngoing ⟨by decide, by decide⟩) hOK hK hP hD hS hA hNN (ci := 4) (q0 := 0) (N := 12) rfl (wC_0 ad cA σ3) rfl hl.1 rfl (Nat.le_of_ble_eq_true rfl) dX4_cancel_12 ⟨by decide, by decide⟩) (gx_nov rfl) rfl hF ht9 hlocks hK hD hS hA
  refine gx_Rv (rest2 := (.ref (ad 0) :: [.int p1])) (gx_runV (As := [.int p1]) (Qc := gQXv D (wC ad cA) (tC cA) _ _) hS9 (tyc_T_requireOngoing l D ad cA _ σ3 p1 _ hl9 er6) (cwV 1 hts gX4_cancel_X4_requireOngoing rfl rfl rfl hd_X4_requireOngoing ⟨by decide, by decide⟩) hOK hK hP hD hS hA hNN (ci := 4) (q0 := 0) (N := 12) rfl (wC_0 ad cA σ3) rfl hl.1 rfl (Nat.le_of_ble_eq_true rfl) dX4_cancel_12 ⟨by decide, by decide⟩) rfl hK hD hS hA (fun H locs hP hD hS => ?_)
  refine lv_aload_n hx hb dX4_cancel_15 rfl (lv_at hl 0 rfl) ?_
  refine lv_iload_n hx hb dX4_cancel_16 rfl (lv_at hl 1 rfl) ?_
  refine lv_iload_n hx hb dX4_cancel_17 rfl (lv_at hl 2 rfl) ?_
  refine lv_iconst (v := 2) hx hb dX4_cancel_18 (by decide) ?_
  obtain ⟨r7, er7, hF⟩ := bR_some hF
  refine gc_Vi (As := [.int p1, .int p2, .int 2]) hS9 (tyc_T_isWithin l D ad cA _ σ5 p1 p2 2 r7 er7) (cwV 3 hts gX4_cancel_X4_isWithin rfl rfl rfl hd_X4_isWithin ⟨by decide, by decide⟩) hK hP hD hS hA hNN (ci := 4) (q0 := 0) (N := 12) rfl (wC_0 ad cA σ5) rfl hl.1 rfl (Nat.le_of_ble_eq_true rfl) dX4_cancel_19 (fun H locs hP hD hS => ?_)
  refine lv_if_ne (tgt := 35) hx hb dX4_cancel_22 (by decide) (fun c_8 => ?_) (fun c_8 => ?_)
  · have hF := iteF hF c_8
    refine lv_aload_n hx hb dX4_cancel_35 rfl (lv_at hl 0 rfl) ?_
    refine va_get (D := D) (ci := 4) (v := .ref (ad 4)) (C := RX4) (T := TX4) (N := 12) hx hb hts hiX4 hown hK hP 0 (wC_0 ad cA σ5) rfl 3 (by decide) hw0 (fun _ h9 => h9) rfl dX4_cancel_36 ?_
    refine lv_iload_n hx hb dX4_cancel_39 rfl (lv_at hl 2 rfl) ?_
    refine lv_iconst (v := 5) hx hb dX4_cancel_40 (by decide) ?_
    obtain ⟨σ9, e9, hF⟩ := bR_some hF
    refine gc_Vv (As := [.int p2, .int 5]) hS9 (tyc_L_release l D ad cA _ σ5 p2 5 σ9 e9) (cwV 2 hts gX4_cancel_X1_release rfl rfl rfl hd_X1_release ⟨by decide, by decide⟩) hK hP hD hS hA hNN (ci := 1) (q0 := 4) (N := 9) rfl (wC_4 ad cA σ5) rfl hl.1 rfl (Nat.le_of_ble_eq_true rfl) dX4_cancel_41 (fun H locs hP hD hS => ?_)
    refine lv_aload_n hx hb dX4_cancel_44 rfl (lv_at hl 0 rfl) ?_
    refine va_get (D := D) (ci := 4) (v := .ref (ad 4)) (C := RX4) (T := TX4) (N := 12) hx hb hts hiX4 hown hK hP 0 (wC_0 ad cA σ9) rfl 3 (by decide) hw0 (fun _ h9 => h9) rfl dX4_cancel_45 ?_
    refine lv_iload_n hx hb dX4_cancel_48 rfl (lv_at hl 2 rfl) ?_
    obtain ⟨r10, er10, hF⟩ := bR_some hF
    refine gc_Vi (As := [.int p2]) hS9 (tyc_L_size l D ad cA _ σ9 p2 r10 er10) (cwV 1 hts gX4_cancel_X1_size rfl rfl rfl hd_X1_size ⟨by decide, by decide⟩) hK hP hD hS hA hNN (ci := 1) (q0 := 4) (N := 9) rfl (wC_4 ad cA σ9) rfl hl.1 rfl (Nat.le_of_ble_eq_true rfl) dX4_cancel_49 (fun H locs hP hD hS => ?_)
    exact g_iretX hx hb hr rfl hlocks hP hK hD hS dX4_cancel_52 hF
  · have hF := iteT hF c_8
    exact gx_throwS (own := RX4) (cls := "java/lang/IllegalStateException") (text := "the booking can\'t be cancelled in this call") (k := 1) hx hb hl9 hown rfl (by decide +kernel) hw2 hw3 (fun w h => hts w (List.mem_cons_of_mem _ (List.mem_append_left _ (List.mem_append_right _ h)))) gnoX4_77 ggdX4_73_77 hOK (List.mem_of_getElem? (i := 10) rfl) (by rw [hml]; exact hl.1) ht9 hlocks hP hK hD hS dX4_cancel_25 dX4_cancel_28 dX4_cancel_29 dX4_cancel_31 dX4_cancel_34 ⟨by decide, by decide, by decide, by decide⟩ hF
set_option maxHeartbeats 4000000 in
set_option maxRecDepth 100000 in
theorem tyc_B_end (l : Launch) (D : va_G) (ad : Nat → Nat) (cA : Nat → ClassId) (sz : Nat) (σ : tyS) (p1 : Int32) (τ : tyS) (hF : tyf_B_end σ p1 = some τ) : gMv l yX3_end wsX3_end ({ frames := 1, cells := 0, slots := 0, locals := 22 } : Room) D (wC ad cA) (tC cA) [.ref (ad 5), .int p1] sz σ τ := by
  refine Met.ofW (cc := cX3_end) (maxL := 2) (ret := none) (by decide) rfl ?_
  intro p e s m args below meth c s₁ B hml hv
  obtain ⟨rfl, hsz, hP, hK, hD0, hNN⟩ := hv
  have hx := B.exec
  have hb := B.bytes
  have hr := B.returns
  have hts := atoms_spec (ws := wsX3_end) B.pre
  have hown : s.vm.findClass RX3 = some m.cls := findClass_of_methodNamed B.named
  have hlocks := B.notSynchronized
  subst hsz
  have hD := hD0.self (sz := s.heap.size)
  generalize hAe : va_A (wC ad cA σ) s.heap.size = A at hD ⊢
  have hA : ∀ q : Nat, s.heap.size ≤ q → A q := fun q h => by rw [← hAe]; exact Or.inr h
  clear hAe hD0
  have hS : va_S A s.heap s.heap [] := va_S.rf
  have hl := lv_entry ([.ref (ad 5), .int p1]) (n := 2) (Nat.le_of_ble_eq_true rfl)
  rw [lg_entry_eq]
  generalize (lg_sl ([.ref (ad 5), .int p1]) ++ List.replicate (2 - (lg_sl ([.ref (ad 5), .int p1])).length) Slot.unset).toArray = ls at hl ⊢
  have hl : lv_has ls 2 [(0, .ref (ad 5)), (1, .int p1)] := hl
  have hS9 : CallFix p m c cX3_end 2 s _ wsX3_end RX3 := ⟨hx, hb, hml, hown, hts⟩
  have hw0 := hts (.fieldLink RX3 27 "TrunkYards$Switchboard" "ongoingCalls" "[I") (List.mem_cons_of_mem _ (List.mem_of_getElem? (i := 0) rfl))
  have hiX3 : ∀ w ∈ wsX30, w ∈ wsX3_end := fun w h => List.mem_cons_of_mem _ (List.mem_append_right _ h)
  have hw2 := hts (.fieldLink RX3 9 "TrunkYards$Switchboard" "customers" "[I") (List.mem_cons_of_mem _ (List.mem_of_getElem? (i := 1) rfl))
  have hw3 := hts (.fieldLink RX3 21 "TrunkYards$Switchboard" "firstTrunks" "[I") (List.mem_cons_of_mem _ (List.mem_of_getElem? (i := 2) rfl))
  have hw4 := hts (.fieldLink RX3 24 "TrunkYards$Switchboard" "secondTrunks" "[I") (List.mem_cons_of_mem _ (List.mem_of_getElem? (i := 3) rfl))
  unfold tyf_B_end at hF
  refine lv_aload_n hx hb dX3_end_0 rfl (lv_at hl 0 rfl) ?_
  refine va_get (D := D) (ci := 3) (v := .ref (ad 26)) (C := RX3) (T := TX3) (N := 9) hx hb hts hiX3 hown hK hP 5 (wC_5 ad cA σ) rfl 5 (by decide) hw0 (fun _ h9 => h9) rfl dX3_end_1 ?_
  refine lv_aload_n hx hb dX3_end_4 rfl (lv_at hl 0 rfl) ?_
  refine va_get (D := D) (ci := 3) (v := .ref (ad 21)) (C := RX3) (T := TX3) (N := 9) hx hb hts hiX3 hown hK hP 5 (wC_5 ad cA σ) rfl 0 (by decide) hw2 (fun _ h9 => h9) rfl dX3_end_5 ?_
  refine lv_iload_n hx hb dX3_end_8 rfl (lv_at hl 1 rfl) ?_
  obtain ⟨hb_1, hF⟩ := chk_some hF
  refine va_iald hx hb hK hP 21 15 (wC_21 ad cA σ) (tC_21 cA) hb_1 dX3_end_9 ?_
  refine lv_iconst (v := (-1)) hx hb dX3_end_10 (by decide) ?_
  obtain ⟨hb_2, hF⟩ := chk_some hF
  obtain ⟨σ3, e3, hF⟩ := stp_some hF
  refine gw_iast hx hb hK hP hD hS (wC_26 ad cA σ) (tC_26 cA) (wCs_26 ad cA σ) hb_2 dX3_end_11 e3 (fun H locs hP hD hS => ?_)
  refine lv_aload_n hx hb dX3_end_12 rfl (lv_at hl 0 rfl) ?_
  refine lv_aload_n hx hb dX3_end_13 rfl (lv_at hl 0 rfl) ?_
  refine va_get (D := D) (ci := 3) (v := .ref (ad 24)) (C := RX3) (T := TX3) (N := 9) hx hb hts hiX3 hown hK hP 5 (wC_5 ad cA σ3) rfl 3 (by decide) hw3 (fun _ h9 => h9) rfl dX3_end_14 ?_
  refine lv_iload_n hx hb dX3_end_17 rfl (lv_at hl 1 rfl) ?_
  obtain ⟨hb_4, hF⟩ := chk_some hF
  refine va_iald hx hb hK hP 24 18 (wC_24 ad cA σ3) (tC_24 cA) hb_4 dX3_end_18 ?_
  refine lv_iconst (v := (-1)) hx hb dX3_end_19 (by decide) ?_
  obtain ⟨σ5, e5, hF⟩ := bR_some hF
  refine gc_Vv (As := [.int (σ3.1 24 (p1).toNatClampNeg), .int (-1)]) hS9 (tyc_B_occupy l D ad cA _ σ3 (σ3.1 24 (p1).toNatClampNeg) (-1) σ5 e5) (cwV 2 hts gX3_end_X3_occupy rfl rfl rfl hd_X3_occupy ⟨by decide, by decide⟩) hK hP hD hS hA hNN (ci := 3) (q0 := 5) (N := 9) rfl (wC_5 ad cA σ3) rfl hl.1 rfl (Nat.le_of_ble_eq_true rfl) dX3_end_20 (fun H locs hP hD hS => ?_)
  refine lv_aload_n hx hb dX3_end_23 rfl (lv_at hl 0 rfl) ?_
  refine lv_aload_n hx hb dX3_end_24 rfl (lv_at hl 0 rfl) ?_
  refine va_get (D := D) (ci := 3) (v := .ref (ad 25)) (C := RX3) (T := TX3) (N := 9) hx hb hts hiX3 hown hK hP 5 (wC_5 ad cA σ5) rfl 4 (by decide) hw4 (fun _ h9 => h9) rfl dX3_end_25 ?_
  refine lv_iload_n hx hb dX3_end_28 rfl (lv_at hl 1 rfl) ?_
  obtain ⟨hb_6, hF⟩ := chk_some hF
  refine va_iald hx hb hK hP 25 19 (wC_25 ad cA σ5) (tC_25 cA) hb_6 dX3_end_29 ?_
  refine lv_iconst (v := (-1)) hx hb dX3_end_30 (by decide) ?_
  obtain ⟨σ7, e7, hF⟩ := bR_some hF
  refine gc_Vv (As := [.int (σ5.1 25 (p1).toNatClampNeg), .int (-1)]) hS9 (tyc_B_occupy l D ad cA _ σ5 (σ5.1 25 (p1).toNatClampNeg) (-1) σ7 e7) (cwV 2 hts gX3_end_X3_occupy rfl rfl rfl hd_X3_occupy ⟨by decide, by decide⟩) hK hP hD hS hA hNN (ci := 3) (q0 := 5) (N := 9) rfl (wC_5 ad cA σ5) rfl hl.1 rfl (Nat.le_of_ble_eq_true rfl) dX3_end_31 (fun H locs hP hD hS => ?_)
  exact g_vretN hx hb hr hlocks hP hK hD hS dX3_end_34 hF
set_option maxHeartbeats 4000000 in
set_option maxRecDepth 100000 in
theorem tyc_T_hangUp (l : Launch) (D : va_G) (ad : Nat → Nat) (cA : Nat → ClassId) (sz : Nat) (σ : tyS) (p1 : Int32) (res : tyX) (hl9 : l.stackTraces = false) (hF : tyf_T_hangUp σ p1 = some res) : gXi gStr l yX4_hangUp wsX4_hangUp ({ frames := 7, cells := 1, slots := 6, locals := 103 } : Room) D (wC ad cA) (tC cA) [.ref (ad 0), .int p1] sz σ res := by
  refine ty_ofW (cc := cX4_hangUp) (maxL := 3) (ret := (some .int)) (by decide) rfl ?_
  intro p e s m args below meth c s₁ B hml ht9 hv
  obtain ⟨rfl, ⟨hsz, hP, hK, hD0, hNN⟩, hOK⟩ := hv
  have hx := B.exec
  have hb := B.bytes
  have hr := B.returns
  have hts := atoms_spec (ws := wsX4_hangUp) B.pre
  have hown : s.vm.findClass RX4 = some m.cls := findClass_of_methodNamed B.named
  have hlocks := B.notSynchronized
  subst hsz
  have hD := hD0.self (sz := s.heap.size)
  generalize hAe : va_A (wC ad cA σ) s.heap.size = A at hD hOK ⊢
  have hA : ∀ q : Nat, s.heap.size ≤ q → A q := fun q h => by rw [← hAe]; exact Or.inr h
  clear hAe hD0
  have hS : va_S A s.heap s.heap [] := va_S.rf
  have hl := lv_entry ([.ref (ad 0), .int p1]) (n := 3) (Nat.le_of_ble_eq_true rfl)
  rw [lg_entry_eq]
  generalize (lg_sl ([.ref (ad 0), .int p1]) ++ List.replicate (3 - (lg_sl ([.ref (ad 0), .int p1])).length) Slot.unset).toArray = ls at hl ⊢
  have hl : lv_has ls 3 [(0, .ref (ad 0)), (1, .int p1)] := hl
  have hS9 : CallFix p m c cX4_hangUp 3 s _ wsX4_hangUp RX4 := ⟨hx, hb, hml, hown, hts⟩
  have hw0 := hts (.fieldLink RX4 36 "TrunkYards" "board" "LTrunkYards$Switchboard;") (List.mem_cons_of_mem _ (List.mem_of_getElem? (i := 0) rfl))
  have hiX4 : ∀ w ∈ wsX40, w ∈ wsX4_hangUp := fun w h => List.mem_cons_of_mem _ (List.mem_append_left _ (List.mem_append_left _ (List.mem_append_left _ (List.mem_append_left _ (List.mem_append_right _ h)))))
  have hw2 := hts (.fieldLink RX4 29 "TrunkYards" "ledger" "LTrunkYards$Ledger;") (List.mem_cons_of_mem _ (List.mem_of_getElem? (i := 1) rfl))
  unfold tyf_T_hangUp at hF
  refine lv_aload_n hx hb dX4_hangUp_0 rfl (lv_at hl 0 rfl) ?_
  refine lv_iload_n hx hb dX4_hangUp_1 rfl (lv_at hl 1 rfl) ?_
  rcases bX_some hF with ⟨kr2, r2, σ1, er2, hF⟩ | ⟨r2, σ1, er2, hF⟩
  · exact gx_T (gx_runV (As := [.int p1]) (Qc := gQXv D (wC ad cA) (tC cA) _ _) hS9 (tyc_T_requireCall l D ad cA _ σ p1 _ hl9 er2) (cwV 1 hts gX4_hangUp_X4_requireCall rfl rfl rfl hd_X4_requireCall ⟨by decide, by decide⟩) hOK hK hP hD hS hA hNN (ci := 4) (q0 := 0) (N := 12) rfl (wC_0 ad cA σ) rfl hl.1 rfl (Nat.le_of_ble_eq_true rfl) dX4_hangUp_2 ⟨by decide, by decide⟩) (gx_nov rfl) rfl hF ht9 hlocks hK hD hS hA
  refine gx_Rv (rest2 := (.ref (ad 0) :: [.int p1])) (gx_runV (As := [.int p1]) (Qc := gQXv D (wC ad cA) (tC cA) _ _) hS9 (tyc_T_requireCall l D ad cA _ σ p1 _ hl9 er2) (cwV 1 hts gX4_hangUp_X4_requireCall rfl rfl rfl hd_X4_requireCall ⟨by decide, by decide⟩) hOK hK hP hD hS hA hNN (ci := 4) (q0 := 0) (N := 12) rfl (wC_0 ad cA σ) rfl hl.1 rfl (Nat.le_of_ble_eq_true rfl) dX4_hangUp_2 ⟨by decide, by decide⟩) rfl hK hD hS hA (fun H locs hP hD hS => ?_)
  refine lv_aload_n hx hb dX4_hangUp_5 rfl (lv_at hl 0 rfl) ?_
  refine lv_iload_n hx hb dX4_hangUp_6 rfl (lv_at hl 1 rfl) ?_
  rcases bX_some hF with ⟨kr4, r4, σ3, er4, hF⟩ | ⟨r4, σ3, er4, hF⟩
  · exact gx_T (gx_runV (As := [.int p1]) (Qc := gQXv D (wC ad cA) (tC cA) _ _) hS9 (tyc_T_requireOngoing l D ad cA _ σ1 p1 _ hl9 er4) (cwV 1 hts gX4_hangUp_X4_requireOngoing rfl rfl rfl hd_X4_requireOngoing ⟨by decide, by decide⟩) hOK hK hP hD hS hA hNN (ci := 4) (q0 := 0) (N := 12) rfl (wC_0 ad cA σ1) rfl hl.1 rfl (Nat.le_of_ble_eq_true rfl) dX4_hangUp_7 ⟨by decide, by decide⟩) (gx_nov rfl) rfl hF ht9 hlocks hK hD hS hA
  refine gx_Rv (rest2 := (.ref (ad 0) :: [.int p1])) (gx_runV (As := [.int p1]) (Qc := gQXv D (wC ad cA) (tC cA) _ _) hS9 (tyc_T_requireOngoing l D ad cA _ σ1 p1 _ hl9 er4) (cwV 1 hts gX4_hangUp_X4_requireOngoing rfl rfl rfl hd_X4_requireOngoing ⟨by decide, by decide⟩) hOK hK hP hD hS hA hNN (ci := 4) (q0 := 0) (N := 12) rfl (wC_0 ad cA σ1) rfl hl.1 rfl (Nat.le_of_ble_eq_true rfl) dX4_hangUp_7 ⟨by decide, by decide⟩) rfl hK hD hS hA (fun H locs hP hD hS => ?_)
  refine lv_aload_n hx hb dX4_hangUp_10 rfl (lv_at hl 0 rfl) ?_
  refine va_get (D := D) (ci := 4) (v := .ref (ad 5)) (C := RX4) (T := TX4) (N := 12) hx hb hts hiX4 hown hK hP 0 (wC_0 ad cA σ3) rfl 4 (by decide) hw0 (fun _ h9 => h9) rfl dX4_hangUp_11 ?_
  refine lv_iload_n hx hb dX4_hangUp_14 rfl (lv_at hl 1 rfl) ?_
  obtain ⟨r5, er5, hF⟩ := bR_some hF
  refine gc_Vi (As := [.int p1]) hS9 (tyc_B_openBooking l D ad cA _ σ3 p1 r5 er5) (cwV 1 hts gX4_hangUp_X3_openBooking rfl rfl rfl hd_X3_openBooking ⟨by decide, by decide⟩) hK hP hD hS hA hNN (ci := 3) (q0 := 5) (N := 9) rfl (wC_5 ad cA σ3) rfl hl.1 rfl (Nat.le_of_ble_eq_true rfl) dX4_hangUp_15 (fun H locs hP hD hS => ?_)
  refine lv_istore_n (lv' := [(2, .int r5), (0, .ref (ad 0)), (1, .int p1)]) hx hb dX4_hangUp_18 rfl hl (by decide) rfl (fun ls hl => ?_)
  refine lv_aload_n hx hb dX4_hangUp_19 rfl (lv_at hl 1 rfl) ?_
  refine va_get (D := D) (ci := 4) (v := .ref (ad 5)) (C := RX4) (T := TX4) (N := 12) hx hb hts hiX4 hown hK hP 0 (wC_0 ad cA σ3) rfl 4 (by decide) hw0 (fun _ h9 => h9) rfl dX4_hangUp_20 ?_
  refine lv_iload_n hx hb dX4_hangUp_23 rfl (lv_at hl 2 rfl) ?_
  obtain ⟨σ6, e6, hF⟩ := bR_some hF
  refine gc_Vv (As := [.int p1]) hS9 (tyc_B_end l D ad cA _ σ3 p1 σ6 e6) (cwV 1 hts gX4_hangUp_X3_end rfl rfl rfl hd_X3_end ⟨by decide, by decide⟩) hK hP hD hS hA hNN (ci := 3) (q0 := 5) (N := 9) rfl (wC_5 ad cA σ3) rfl hl.1 rfl (Nat.le_of_ble_eq_true rfl) dX4_hangUp_24 (fun H locs hP hD hS => ?_)
  refine lv_iload_n hx hb dX4_hangUp_27 rfl (lv_at hl 0 rfl) ?_
  refine lv_iconst (v := (-1)) hx hb dX4_hangUp_28 (by decide) ?_
  refine lv_icmp_ne (tgt := 34) hx hb dX4_hangUp_29 (by decide) (fun c_7 => ?_) (fun c_7 => ?_)
  · have hF := iteF hF c_7
    refine lv_aload_n hx hb dX4_hangUp_34 rfl (lv_at hl 1 rfl) ?_
    refine va_get (D := D) (ci := 4) (v := .ref (ad 4)) (C := RX4) (T := TX4) (N := 12) hx hb hts hiX4 hown hK hP 0 (wC_0 ad cA σ6) rfl 3 (by decide) hw2 (fun _ h9 => h9) rfl dX4_hangUp_35 ?_
    refine lv_iload_n hx hb dX4_hangUp_38 rfl (lv_at hl 0 rfl) ?_
    refine lv_iconst (v := 5) hx hb dX4_hangUp_39 (by decide) ?_
    obtain ⟨σ8, e8, hF⟩ := bR_some hF
    refine gc_Vv (As := [.int r5, .int 5]) hS9 (tyc_L_release l D ad cA _ σ6 r5 5 σ8 e8) (cwV 2 hts gX4_hangUp_X1_release rfl rfl rfl hd_X1_release ⟨by decide, by decide⟩) hK hP hD hS hA hNN (ci := 1) (q0 := 4) (N := 9) rfl (wC_4 ad cA σ6) rfl hl.1 rfl (Nat.le_of_ble_eq_true rfl) dX4_hangUp_40 (fun H locs hP hD hS => ?_)
    refine lv_aload_n hx hb dX4_hangUp_43 rfl (lv_at hl 1 rfl) ?_
    refine va_get (D := D) (ci := 4) (v := .ref (ad 4)) (C := RX4) (T := TX4) (N := 12) hx hb hts hiX4 hown hK hP 0 (wC_0 ad cA σ8) rfl 3 (by decide) hw2 (fun _ h9 => h9) rfl dX4_hangUp_44 ?_
    refine lv_iload_n hx hb dX4_hangUp_47 rfl (lv_at hl 0 rfl) ?_
    obtain ⟨r9, er9, hF⟩ := bR_some hF
    refine gc_Vi (As := [.int r5]) hS9 (tyc_L_size l D ad cA _ σ8 r5 r9 er9) (cwV 1 hts gX4_hangUp_X1_size rfl rfl rfl hd_X1_size ⟨by decide, by decide⟩) hK hP hD hS hA hNN (ci := 1) (q0 := 4) (N := 9) rfl (wC_4 ad cA σ8) rfl hl.1 rfl (Nat.le_of_ble_eq_true rfl) dX4_hangUp_48 (fun H locs hP hD hS => ?_)
    exact g_iretX hx hb hr rfl hlocks hP hK hD hS dX4_hangUp_51 hF
  · have hF := iteT hF c_7
    refine lv_iconst (v := 0) hx hb dX4_hangUp_32 (by decide) ?_
    exact g_iretX hx hb hr rfl hlocks hP hK hD hS dX4_hangUp_33 hF
set_option maxHeartbeats 4000000 in
set_option maxRecDepth 100000 in
theorem tyc_T_callOf (l : Launch) (D : va_G) (ad : Nat → Nat) (cA : Nat → ClassId) (sz : Nat) (σ : tyS) (p1 : Int32) (res : tyX) (hl9 : l.stackTraces = false) (hF : tyf_T_callOf σ p1 = some res) : gXi gStr l yX4_callOf wsX4_callOf ({ frames := 7, cells := 1, slots := 6, locals := 102 } : Room) D (wC ad cA) (tC cA) [.ref (ad 0), .int p1] sz σ res := by
  refine ty_ofW (cc := cX4_callOf) (maxL := 2) (ret := (some .int)) (by decide) rfl ?_
  intro p e s m args below meth c s₁ B hml ht9 hv
  obtain ⟨rfl, ⟨hsz, hP, hK, hD0, hNN⟩, hOK⟩ := hv
  have hx := B.exec
  have hb := B.bytes
  have hr := B.returns
  have hts := atoms_spec (ws := wsX4_callOf) B.pre
  have hown : s.vm.findClass RX4 = some m.cls := findClass_of_methodNamed B.named
  have hlocks := B.notSynchronized
  subst hsz
  have hD := hD0.self (sz := s.heap.size)
  generalize hAe : va_A (wC ad cA σ) s.heap.size = A at hD hOK ⊢
  have hA : ∀ q : Nat, s.heap.size ≤ q → A q := fun q h => by rw [← hAe]; exact Or.inr h
  clear hAe hD0
  have hS : va_S A s.heap s.heap [] := va_S.rf
  have hl := lv_entry ([.ref (ad 0), .int p1]) (n := 2) (Nat.le_of_ble_eq_true rfl)
  rw [lg_entry_eq]
  generalize (lg_sl ([.ref (ad 0), .int p1]) ++ List.replicate (2 - (lg_sl ([.ref (ad 0), .int p1])).length) Slot.unset).toArray = ls at hl ⊢
  have hl : lv_has ls 2 [(0, .ref (ad 0)), (1, .int p1)] := hl
  have hS9 : CallFix p m c cX4_callOf 2 s _ wsX4_callOf RX4 := ⟨hx, hb, hml, hown, hts⟩
  have hw0 := hts (.fieldLink RX4 36 "TrunkYards" "board" "LTrunkYards$Switchboard;") (List.mem_cons_of_mem _ (List.mem_of_getElem? (i := 0) rfl))
  have hiX4 : ∀ w ∈ wsX40, w ∈ wsX4_callOf := fun w h => List.mem_cons_of_mem _ (List.mem_append_left _ (List.mem_append_left _ (List.mem_append_right _ h)))
  unfold tyf_T_callOf at hF
  refine lv_iload_n hx hb dX4_callOf_0 rfl (lv_at hl 1 rfl) ?_
  rcases bX_some hF with ⟨kr2, r2, σ1, er2, hF⟩ | ⟨r2, σ1, er2, hF⟩
  · exact gx_T (gx_runS (As := [.int p1]) (Qc := gQXv D (wC ad cA) (tC cA) _ _) hS9 (tyc_T_requireCustomer l D ad cA _ σ p1 _ hl9 er2) (va_cwS 1 hts gX4_callOf_X4_requireCustomer rfl rfl rfl hd_X4_requireCustomer ⟨by decide, by decide⟩) hOK hK hP hD hS hA hNN rfl hl.1 rfl (Nat.le_of_ble_eq_true rfl) dX4_callOf_1 ⟨by decide, by decide⟩) (gx_nov rfl) rfl hF ht9 hlocks hK hD hS hA
  refine gx_Rv (rest2 := ([.int p1])) (gx_runS (As := [.int p1]) (Qc := gQXv D (wC ad cA) (tC cA) _ _) hS9 (tyc_T_requireCustomer l D ad cA _ σ p1 _ hl9 er2) (va_cwS 1 hts gX4_callOf_X4_requireCustomer rfl rfl rfl hd_X4_requireCustomer ⟨by decide, by decide⟩) hOK hK hP hD hS hA hNN rfl hl.1 rfl (Nat.le_of_ble_eq_true rfl) dX4_callOf_1 ⟨by decide, by decide⟩) rfl hK hD hS hA (fun H locs hP hD hS => ?_)
  refine lv_aload_n hx hb dX4_callOf_4 rfl (lv_at hl 0 rfl) ?_
  refine va_get (D := D) (ci := 4) (v := .ref (ad 5)) (C := RX4) (T := TX4) (N := 12) hx hb hts hiX4 hown hK hP 0 (wC_0 ad cA σ1) rfl 4 (by decide) hw0 (fun _ h9 => h9) rfl dX4_callOf_5 ?_
  refine lv_iload_n hx hb dX4_callOf_8 rfl (lv_at hl 1 rfl) ?_
  obtain ⟨r3, er3, hF⟩ := bR_some hF
  refine gc_Vi (As := [.int p1]) hS9 (tyc_B_ongoing l D ad cA _ σ1 p1 r3 er3) (cwV 1 hts gX4_callOf_X3_ongoing rfl rfl rfl hd_X3_ongoing ⟨by decide, by decide⟩) hK hP hD hS hA hNN (ci := 3) (q0 := 5) (N := 9) rfl (wC_5 ad cA σ1) rfl hl.1 rfl (Nat.le_of_ble_eq_true rfl) dX4_callOf_9 (fun H locs hP hD hS => ?_)
  exact g_iretX hx hb hr rfl hlocks hP hK hD hS dX4_callOf_12 hF
set_option maxHeartbeats 4000000 in
set_option maxRecDepth 100000 in
theorem tyc_B_trunksOf (l : Launch) (D : va_G) (ad : Nat → Nat) (cA : Nat → ClassId) (sz : Nat) (σ : tyS) (p1 : Int32) (r : Int32) (hF : tyf_B_trunksOf σ p1 = some r) : gMi l yX3_trunksOf wsX3_trunksOf ({ frames := 0, cells := 0, slots := 0, locals := 0 } : Room) D (wC ad cA) (tC cA) [.ref (ad 5), .int p1] sz σ r σ := by
  refine Met.ofW (cc := cX3_trunksOf) (maxL := 2) (ret := (some .int)) (by decide) rfl ?_
  intro p e s m args below meth c s₁ B hml hv
  obtain ⟨rfl, hsz, hP, hK, hD0, hNN⟩ := hv
  have hx := B.exec
  have hb := B.bytes
  have hr := B.returns
  have hts := atoms_spec (ws := wsX3_trunksOf) B.pre
  have hown : s.vm.findClass RX3 = some m.cls := findClass_of_methodNamed B.named
  have hlocks := B.notSynchronized
  subst hsz
  have hD := hD0.self (sz := s.heap.size)
  generalize hAe : va_A (wC ad cA σ) s.heap.size = A at hD ⊢
  have hA : ∀ q : Nat, s.heap.size ≤ q → A q := fun q h => by rw [← hAe]; exact Or.inr h
  clear hAe hD0
  have hS : va_S A s.heap s.heap [] := va_S.rf
  have hl := lv_entry ([.ref (ad 5), .int p1]) (n := 2) (Nat.le_of_ble_eq_true rfl)
  rw [lg_entry_eq]
  generalize (lg_sl ([.ref (ad 5), .int p1]) ++ List.replicate (2 - (lg_sl ([.ref (ad 5), .int p1])).length) Slot.unset).toArray = ls at hl ⊢
  have hl : lv_has ls 2 [(0, .ref (ad 5)), (1, .int p1)] := hl
  have hw0 := hts (.fieldLink RX3 21 "TrunkYards$Switchboard" "firstTrunks" "[I") (List.mem_cons_of_mem _ (List.mem_of_getElem? (i := 0) rfl))
  have hiX3 : ∀ w ∈ wsX30, w ∈ wsX3_trunksOf := fun w h => List.mem_cons_of_mem _ (List.mem_append_right _ h)
  have hw2 := hts (.fieldLink RX3 24 "TrunkYards$Switchboard" "secondTrunks" "[I") (List.mem_cons_of_mem _ (List.mem_of_getElem? (i := 1) rfl))
  unfold tyf_B_trunksOf at hF
  refine lv_aload_n hx hb dX3_trunksOf_0 rfl (lv_at hl 0 rfl) ?_
  refine va_get (D := D) (ci := 3) (v := .ref (ad 24)) (C := RX3) (T := TX3) (N := 9) hx hb hts hiX3 hown hK hP 5 (wC_5 ad cA σ) rfl 3 (by decide) hw0 (fun _ h9 => h9) rfl dX3_trunksOf_1 ?_
  refine lv_iload_n hx hb dX3_trunksOf_4 rfl (lv_at hl 1 rfl) ?_
  obtain ⟨hb_1, hF⟩ := chk_some hF
  refine va_iald hx hb hK hP 24 18 (wC_24 ad cA σ) (tC_24 cA) hb_1 dX3_trunksOf_5 ?_
  refine lv_iconst (v := (-1)) hx hb dX3_trunksOf_6 (by decide) ?_
  refine lv_icmp_ne (tgt := 14) hx hb dX3_trunksOf_7 (by decide) (fun c_2 => ?_) (fun c_2 => ?_)
  · have hF := iteF hF c_2
    refine lv_iconst (v := 1) hx hb dX3_trunksOf_14 (by decide) ?_
    refine lv_aload_n hx hb dX3_trunksOf_15 rfl (lv_at hl 0 rfl) ?_
    refine va_get (D := D) (ci := 3) (v := .ref (ad 25)) (C := RX3) (T := TX3) (N := 9) hx hb hts hiX3 hown hK hP 5 (wC_5 ad cA σ) rfl 4 (by decide) hw2 (fun _ h9 => h9) rfl dX3_trunksOf_16 ?_
    refine lv_iload_n hx hb dX3_trunksOf_19 rfl (lv_at hl 1 rfl) ?_
    obtain ⟨hb_3, hF⟩ := chk_some hF
    refine va_iald hx hb hK hP 25 19 (wC_25 ad cA σ) (tC_25 cA) hb_3 dX3_trunksOf_20 ?_
    refine lv_iconst (v := (-1)) hx hb dX3_trunksOf_21 (by decide) ?_
    refine lv_icmp_ne (tgt := 29) hx hb dX3_trunksOf_22 (by decide) (fun c_4 => ?_) (fun c_4 => ?_)
    · have hF := iteF hF c_4
      refine lv_iconst (v := 1) hx hb dX3_trunksOf_29 (by decide) ?_
      refine lv_iadd hx hb dX3_trunksOf_30 ?_
      exact g_iretR hx hb hr rfl hlocks hP hK hD hS dX3_trunksOf_31 hF
    · have hF := iteT hF c_4
      refine lv_iconst (v := 0) hx hb dX3_trunksOf_25 (by decide) ?_
      refine lv_goto (tgt := 30) hx hb dX3_trunksOf_26 (by decide) ?_
      refine lv_iadd hx hb dX3_trunksOf_30 ?_
      exact g_iretR hx hb hr rfl hlocks hP hK hD hS dX3_trunksOf_31 hF
  · have hF := iteT hF c_2
    refine lv_iconst (v := 0) hx hb dX3_trunksOf_10 (by decide) ?_
    refine lv_goto (tgt := 15) hx hb dX3_trunksOf_11 (by decide) ?_
    refine lv_aload_n hx hb dX3_trunksOf_15 rfl (lv_at hl 0 rfl) ?_
    refine va_get (D := D) (ci := 3) (v := .ref (ad 25)) (C := RX3) (T := TX3) (N := 9) hx hb hts hiX3 hown hK hP 5 (wC_5 ad cA σ) rfl 4 (by decide) hw2 (fun _ h9 => h9) rfl dX3_trunksOf_16 ?_
    refine lv_iload_n hx hb dX3_trunksOf_19 rfl (lv_at hl 1 rfl) ?_
    obtain ⟨hb_5, hF⟩ := chk_some hF
    refine va_iald hx hb hK hP 25 19 (wC_25 ad cA σ) (tC_25 cA) hb_5 dX3_trunksOf_20 ?_
    refine lv_iconst (v := (-1)) hx hb dX3_trunksOf_21 (by decide) ?_
    refine lv_icmp_ne (tgt := 29) hx hb dX3_trunksOf_22 (by decide) (fun c_6 => ?_) (fun c_6 => ?_)
    · have hF := iteF hF c_6
      refine lv_iconst (v := 1) hx hb dX3_trunksOf_29 (by decide) ?_
      refine lv_iadd hx hb dX3_trunksOf_30 ?_
      exact g_iretR hx hb hr rfl hlocks hP hK hD hS dX3_trunksOf_31 hF
    · have hF := iteT hF c_6
      refine lv_iconst (v := 0) hx hb dX3_trunksOf_25 (by decide) ?_
      refine lv_goto (tgt := 30) hx hb dX3_trunksOf_26 (by decide) ?_
      refine lv_iadd hx hb dX3_trunksOf_30 ?_
      exact g_iretR hx hb hr rfl hlocks hP hK hD hS dX3_trunksOf_31 hF
set_option maxHeartbeats 4000000 in
set_option maxRecDepth 100000 in
theorem tyc_T_way (l : Launch) (D : va_G) (ad : Nat → Nat) (cA : Nat → ClassId) (sz : Nat) (σ : tyS) (p1 : Int32) (res : tyX) (hl9 : l.stackTraces = false) (hF : tyf_T_way σ p1 = some res) : gXi gStr l yX4_way wsX4_way ({ frames := 7, cells := 1, slots := 6, locals := 103 } : Room) D (wC ad cA) (tC cA) [.ref (ad 0), .int p1] sz σ res := by
  refine ty_ofW (cc := cX4_way) (maxL := 2) (ret := (some .int)) (by decide) rfl ?_
  intro p e s m args below meth c s₁ B hml ht9 hv
  obtain ⟨rfl, ⟨hsz, hP, hK, hD0, hNN⟩, hOK⟩ := hv
  have hx := B.exec
  have hb := B.bytes
  have hr := B.returns
  have hts := atoms_spec (ws := wsX4_way) B.pre
  have hown : s.vm.findClass RX4 = some m.cls := findClass_of_methodNamed B.named
  have hlocks := B.notSynchronized
  subst hsz
  have hD := hD0.self (sz := s.heap.size)
  generalize hAe : va_A (wC ad cA σ) s.heap.size = A at hD hOK ⊢
  have hA : ∀ q : Nat, s.heap.size ≤ q → A q := fun q h => by rw [← hAe]; exact Or.inr h
  clear hAe hD0
  have hS : va_S A s.heap s.heap [] := va_S.rf
  have hl := lv_entry ([.ref (ad 0), .int p1]) (n := 2) (Nat.le_of_ble_eq_true rfl)
  rw [lg_entry_eq]
  generalize (lg_sl ([.ref (ad 0), .int p1]) ++ List.replicate (2 - (lg_sl ([.ref (ad 0), .int p1])).length) Slot.unset).toArray = ls at hl ⊢
  have hl : lv_has ls 2 [(0, .ref (ad 0)), (1, .int p1)] := hl
  have hS9 : CallFix p m c cX4_way 2 s _ wsX4_way RX4 := ⟨hx, hb, hml, hown, hts⟩
  have hw0 := hts (.fieldLink RX4 36 "TrunkYards" "board" "LTrunkYards$Switchboard;") (List.mem_cons_of_mem _ (List.mem_of_getElem? (i := 0) rfl))
  have hiX4 : ∀ w ∈ wsX40, w ∈ wsX4_way := fun w h => List.mem_cons_of_mem _ (List.mem_append_left _ (List.mem_append_left _ (List.mem_append_left _ (List.mem_append_right _ h))))
  unfold tyf_T_way at hF
  refine lv_aload_n hx hb dX4_way_0 rfl (lv_at hl 0 rfl) ?_
  refine lv_iload_n hx hb dX4_way_1 rfl (lv_at hl 1 rfl) ?_
  rcases bX_some hF with ⟨kr2, r2, σ1, er2, hF⟩ | ⟨r2, σ1, er2, hF⟩
  · exact gx_T (gx_runV (As := [.int p1]) (Qc := gQXv D (wC ad cA) (tC cA) _ _) hS9 (tyc_T_requireCall l D ad cA _ σ p1 _ hl9 er2) (cwV 1 hts gX4_way_X4_requireCall rfl rfl rfl hd_X4_requireCall ⟨by decide, by decide⟩) hOK hK hP hD hS hA hNN (ci := 4) (q0 := 0) (N := 12) rfl (wC_0 ad cA σ) rfl hl.1 rfl (Nat.le_of_ble_eq_true rfl) dX4_way_2 ⟨by decide, by decide⟩) (gx_nov rfl) rfl hF ht9 hlocks hK hD hS hA
  refine gx_Rv (rest2 := (.ref (ad 0) :: [.int p1])) (gx_runV (As := [.int p1]) (Qc := gQXv D (wC ad cA) (tC cA) _ _) hS9 (tyc_T_requireCall l D ad cA _ σ p1 _ hl9 er2) (cwV 1 hts gX4_way_X4_requireCall rfl rfl rfl hd_X4_requireCall ⟨by decide, by decide⟩) hOK hK hP hD hS hA hNN (ci := 4) (q0 := 0) (N := 12) rfl (wC_0 ad cA σ) rfl hl.1 rfl (Nat.le_of_ble_eq_true rfl) dX4_way_2 ⟨by decide, by decide⟩) rfl hK hD hS hA (fun H locs hP hD hS => ?_)
  refine lv_aload_n hx hb dX4_way_5 rfl (lv_at hl 0 rfl) ?_
  refine lv_iload_n hx hb dX4_way_6 rfl (lv_at hl 1 rfl) ?_
  rcases bX_some hF with ⟨kr4, r4, σ3, er4, hF⟩ | ⟨r4, σ3, er4, hF⟩
  · exact gx_T (gx_runV (As := [.int p1]) (Qc := gQXv D (wC ad cA) (tC cA) _ _) hS9 (tyc_T_requireOngoing l D ad cA _ σ1 p1 _ hl9 er4) (cwV 1 hts gX4_way_X4_requireOngoing rfl rfl rfl hd_X4_requireOngoing ⟨by decide, by decide⟩) hOK hK hP hD hS hA hNN (ci := 4) (q0 := 0) (N := 12) rfl (wC_0 ad cA σ1) rfl hl.1 rfl (Nat.le_of_ble_eq_true rfl) dX4_way_7 ⟨by decide, by decide⟩) (gx_nov rfl) rfl hF ht9 hlocks hK hD hS hA
  refine gx_Rv (rest2 := (.ref (ad 0) :: [.int p1])) (gx_runV (As := [.int p1]) (Qc := gQXv D (wC ad cA) (tC cA) _ _) hS9 (tyc_T_requireOngoing l D ad cA _ σ1 p1 _ hl9 er4) (cwV 1 hts gX4_way_X4_requireOngoing rfl rfl rfl hd_X4_requireOngoing ⟨by decide, by decide⟩) hOK hK hP hD hS hA hNN (ci := 4) (q0 := 0) (N := 12) rfl (wC_0 ad cA σ1) rfl hl.1 rfl (Nat.le_of_ble_eq_true rfl) dX4_way_7 ⟨by decide, by decide⟩) rfl hK hD hS hA (fun H locs hP hD hS => ?_)
  refine lv_aload_n hx hb dX4_way_10 rfl (lv_at hl 0 rfl) ?_
  refine va_get (D := D) (ci := 4) (v := .ref (ad 5)) (C := RX4) (T := TX4) (N := 12) hx hb hts hiX4 hown hK hP 0 (wC_0 ad cA σ3) rfl 4 (by decide) hw0 (fun _ h9 => h9) rfl dX4_way_11 ?_
  refine lv_iload_n hx hb dX4_way_14 rfl (lv_at hl 1 rfl) ?_
  obtain ⟨r5, er5, hF⟩ := bR_some hF
  refine gc_Vi (As := [.int p1]) hS9 (tyc_B_trunksOf l D ad cA _ σ3 p1 r5 er5) (cwV 1 hts gX4_way_X3_trunksOf rfl rfl rfl hd_X3_trunksOf ⟨by decide, by decide⟩) hK hP hD hS hA hNN (ci := 3) (q0 := 5) (N := 9) rfl (wC_5 ad cA σ3) rfl hl.1 rfl (Nat.le_of_ble_eq_true rfl) dX4_way_15 (fun H locs hP hD hS => ?_)
  exact g_iretX hx hb hr rfl hlocks hP hK hD hS dX4_way_18 hF
set_option maxHeartbeats 4000000 in
set_option maxRecDepth 100000 in
theorem tyc_T_busy (l : Launch) (D : va_G) (ad : Nat → Nat) (cA : Nat → ClassId) (sz : Nat) (σ : tyS) (r : Int32) (hF : tyf_T_busy σ  = some r) : gMi l yX4_busy wsX4_busy ({ frames := 0, cells := 0, slots := 0, locals := 0 } : Room) D (wC ad cA) (tC cA) [.ref (ad 0)] sz σ r σ := by
  refine Met.ofW (cc := cX4_busy) (maxL := 1) (ret := (some .int)) (by decide) rfl ?_
  intro p e s m args below meth c s₁ B hml hv
  obtain ⟨rfl, hsz, hP, hK, hD0, hNN⟩ := hv
  have hx := B.exec
  have hb := B.bytes
  have hr := B.returns
  have hts := atoms_spec (ws := wsX4_busy) B.pre
  have hown : s.vm.findClass RX4 = some m.cls := findClass_of_methodNamed B.named
  have hlocks := B.notSynchronized
  subst hsz
  have hD := hD0.self (sz := s.heap.size)
  generalize hAe : va_A (wC ad cA σ) s.heap.size = A at hD ⊢
  have hA : ∀ q : Nat, s.heap.size ≤ q → A q := fun q h => by rw [← hAe]; exact Or.inr h
  clear hAe hD0
  have hS : va_S A s.heap s.heap [] := va_S.rf
  have hl := lv_entry ([.ref (ad 0)]) (n := 1) (Nat.le_of_ble_eq_true rfl)
  rw [lg_entry_eq]
  generalize (lg_sl ([.ref (ad 0)]) ++ List.replicate (1 - (lg_sl ([.ref (ad 0)])).length) Slot.unset).toArray = ls at hl ⊢
  have hl : lv_has ls 1 [(0, .ref (ad 0))] := hl
  have hw0 := hts (.fieldLink RX4 148 "TrunkYards" "busyCalls" "I") (List.mem_cons_of_mem _ (List.mem_of_getElem? (i := 0) rfl))
  have hiX4 : ∀ w ∈ wsX40, w ∈ wsX4_busy := fun w h => List.mem_cons_of_mem _ (List.mem_append_right _ h)
  unfold tyf_T_busy at hF
  refine lv_aload_n hx hb dX4_busy_0 rfl (lv_at hl 0 rfl) ?_
  refine va_get (D := D) (ci := 4) (v := .int (σ.2 2)) (C := RX4) (T := TX4) (N := 12) hx hb hts hiX4 hown hK hP 0 (wC_0 ad cA σ) rfl 10 (by decide) hw0 (fun _ h9 => h9) rfl dX4_busy_1 ?_
  exact g_iretR hx hb hr rfl hlocks hP hK hD hS dX4_busy_4 hF
set_option maxHeartbeats 4000000 in
set_option maxRecDepth 100000 in
theorem tyc_T_isExchange (l : Launch) (D : va_G) (ad : Nat → Nat) (cA : Nat → ClassId) (sz : Nat) (σ : tyS) (p0 : Int32) (r : Int32) (hF : tyf_T_isExchange σ p0 = some r) : gMi l yX4_isExchange wsX4_isExchange ({ frames := 0, cells := 0, slots := 0, locals := 0 } : Room) D (wC ad cA) (tC cA) [.int p0] sz σ r σ := by
  refine Met.ofW (cc := cX4_isExchange) (maxL := 1) (ret := (some .boolean)) (by decide) rfl ?_
  intro p e s m args below meth c s₁ B hml hv
  obtain ⟨rfl, hsz, hP, hK, hD0, hNN⟩ := hv
  have hx := B.exec
  have hb := B.bytes
  have hr := B.returns
  have hts := atoms_spec (ws := wsX4_isExchange) B.pre
  have hown : s.vm.findClass RX4 = some m.cls := findClass_of_methodNamed B.named
  have hlocks := B.notSynchronized
  subst hsz
  have hD := hD0.self (sz := s.heap.size)
  generalize hAe : va_A (wC ad cA σ) s.heap.size = A at hD ⊢
  have hA : ∀ q : Nat, s.heap.size ≤ q → A q := fun q h => by rw [← hAe]; exact Or.inr h
  clear hAe hD0
  have hS : va_S A s.heap s.heap [] := va_S.rf
  have hl := lv_entry ([.int p0]) (n := 1) (Nat.le_of_ble_eq_true rfl)
  rw [lg_entry_eq]
  generalize (lg_sl ([.int p0]) ++ List.replicate (1 - (lg_sl ([.int p0])).length) Slot.unset).toArray = ls at hl ⊢
  have hl : lv_has ls 1 [(0, .int p0)] := hl
  unfold tyf_T_isExchange at hF
  refine lv_iload_n hx hb dX4_isExchange_0 rfl (lv_at hl 0 rfl) ?_
  refine lv_if_lt (tgt := 13) hx hb dX4_isExchange_1 (by decide) (fun c_1 => ?_) (fun c_1 => ?_)
  · have hF := iteT hF c_1
    refine lv_iconst (v := 0) hx hb dX4_isExchange_13 (by decide) ?_
    exact g_iretR hx hb hr rfl hlocks hP hK hD hS dX4_isExchange_14 hF
  · have hF := iteF hF c_1
    refine lv_iload_n hx hb dX4_isExchange_4 rfl (lv_at hl 0 rfl) ?_
    refine lv_iconst (v := 3) hx hb dX4_isExchange_5 (by decide) ?_
    refine lv_icmp_ge (tgt := 13) hx hb dX4_isExchange_6 (by decide) (fun c_2 => ?_) (fun c_2 => ?_)
    · have hF := iteT hF c_2
      refine lv_iconst (v := 0) hx hb dX4_isExchange_13 (by decide) ?_
      exact g_iretR hx hb hr rfl hlocks hP hK hD hS dX4_isExchange_14 hF
    · have hF := iteF hF c_2
      refine lv_iconst (v := 1) hx hb dX4_isExchange_9 (by decide) ?_
      refine lv_goto (tgt := 14) hx hb dX4_isExchange_10 (by decide) ?_
      exact g_iretR hx hb hr rfl hlocks hP hK hD hS dX4_isExchange_14 hF
set_option maxHeartbeats 4000000 in
set_option maxRecDepth 100000 in
theorem tyc_T_requireTrunk (l : Launch) (D : va_G) (ad : Nat → Nat) (cA : Nat → ClassId) (sz : Nat) (σ : tyS) (p0 : Int32) (p1 : Int32) (p2 : Int32) (res : tyX) (hl9 : l.stackTraces = false) (hF : tyf_T_requireTrunk σ p0 p1 p2 = some res) : gXv gStr l yX4_requireTrunk wsX4_requireTrunk ({ frames := 6, cells := 1, slots := 6, locals := 82 } : Room) D (wC ad cA) (tC cA) [.int p0, .int p1, .int p2] sz σ res := by
  refine ty_ofW (cc := cX4_requireTrunk) (maxL := 3) (ret := none) (by decide) rfl ?_
  intro p e s m args below meth c s₁ B hml ht9 hv
  obtain ⟨rfl, ⟨hsz, hP, hK, hD0, hNN⟩, hOK⟩ := hv
  have hx := B.exec
  have hb := B.bytes
  have hr := B.returns
  have hts := atoms_spec (ws := wsX4_requireTrunk) B.pre
  have hown : s.vm.findClass RX4 = some m.cls := findClass_of_methodNamed B.named
  have hlocks := B.notSynchronized
  subst hsz
  have hD := hD0.self (sz := s.heap.size)
  generalize hAe : va_A (wC ad cA σ) s.heap.size = A at hD hOK ⊢
  have hA : ∀ q : Nat, s.heap.size ≤ q → A q := fun q h => by rw [← hAe]; exact Or.inr h
  clear hAe hD0
  have hS : va_S A s.heap s.heap [] := va_S.rf
  have hl := lv_entry ([.int p0, .int p1, .int p2]) (n := 3) (Nat.le_of_ble_eq_true rfl)
  rw [lg_entry_eq]
  generalize (lg_sl ([.int p0, .int p1, .int p2]) ++ List.replicate (3 - (lg_sl ([.int p0, .int p1, .int p2])).length) Slot.unset).toArray = ls at hl ⊢
  have hl : lv_has ls 3 [(0, .int p0), (1, .int p1), (2, .int p2)] := hl
  have hS9 : CallFix p m c cX4_requireTrunk 3 s _ wsX4_requireTrunk RX4 := ⟨hx, hb, hml, hown, hts⟩
  have hw0 := hts (.classLink RX4 86 "java/lang/IllegalArgumentException") (List.mem_cons_of_mem _ (List.mem_of_getElem? (i := 0) rfl))
  have hw1 := hts (.initialized "java/lang/IllegalArgumentException") (List.mem_cons_of_mem _ (List.mem_of_getElem? (i := 1) rfl))
  unfold tyf_T_requireTrunk at hF
  refine lv_iload_n hx hb dX4_requireTrunk_0 rfl (lv_at hl 0 rfl) ?_
  obtain ⟨r1, er1, hF⟩ := bR_some hF
  refine gc_Si (As := [.int p0]) hS9 (tyc_T_isExchange l D ad cA _ σ p0 r1 er1) (va_cwS 1 hts gX4_requireTrunk_X4_isExchange rfl rfl rfl hd_X4_isExchange ⟨by decide, by decide⟩) hK hP hD hS hA hNN rfl hl.1 rfl (Nat.le_of_ble_eq_true rfl) dX4_requireTrunk_1 (fun H locs hP hD hS => ?_)
  refine lv_if_eq (tgt := 28) hx hb dX4_requireTrunk_4 (by decide) (fun c_2 => ?_) (fun c_2 => ?_)
  · have hF := iteT hF c_2
    exact gx_throwSW (own := RX4) (cls := "java/lang/IllegalArgumentException") (text := "there is no such trunk") (k := 0) hx hb hl9 hown rfl (by decide +kernel) hw0 hw1 (fun w h => hts w (List.mem_cons_of_mem _ (List.mem_append_right _ h))) gnoX4_90 ggdX4_86_90 hOK (List.mem_of_getElem? (i := 27) rfl) (by rw [hml]; exact hl.1) ht9 hlocks hP hK hD hS dX4_requireTrunk_28 dX4_requireTrunk_31 dX4_requireTrunk_32 dX4_requireTrunk_35 dX4_requireTrunk_38 ⟨by decide, by decide, by decide, by decide⟩ hF
  · have hF := iteF hF c_2
    refine lv_iload_n hx hb dX4_requireTrunk_7 rfl (lv_at hl 1 rfl) ?_
    obtain ⟨r3, er3, hF⟩ := bR_some hF
    refine gc_Si (As := [.int p1]) hS9 (tyc_T_isExchange l D ad cA _ σ p1 r3 er3) (va_cwS 1 hts gX4_requireTrunk_X4_isExchange rfl rfl rfl hd_X4_isExchange ⟨by decide, by decide⟩) hK hP hD hS hA hNN rfl hl.1 rfl (Nat.le_of_ble_eq_true rfl) dX4_requireTrunk_8 (fun H locs hP hD hS => ?_)
    refine lv_if_eq (tgt := 28) hx hb dX4_requireTrunk_11 (by decide) (fun c_4 => ?_) (fun c_4 => ?_)
    · have hF := iteT hF c_4
      exact gx_throwSW (own := RX4) (cls := "java/lang/IllegalArgumentException") (text := "there is no such trunk") (k := 0) hx hb hl9 hown rfl (by decide +kernel) hw0 hw1 (fun w h => hts w (List.mem_cons_of_mem _ (List.mem_append_right _ h))) gnoX4_90 ggdX4_86_90 hOK (List.mem_of_getElem? (i := 27) rfl) (by rw [hml]; exact hl.1) ht9 hlocks hP hK hD hS dX4_requireTrunk_28 dX4_requireTrunk_31 dX4_requireTrunk_32 dX4_requireTrunk_35 dX4_requireTrunk_38 ⟨by decide, by decide, by decide, by decide⟩ hF
    · have hF := iteF hF c_4
      refine lv_iload_n hx hb dX4_requireTrunk_14 rfl (lv_at hl 0 rfl) ?_
      refine lv_iload_n hx hb dX4_requireTrunk_15 rfl (lv_at hl 1 rfl) ?_
      refine lv_icmp_eq (tgt := 28) hx hb dX4_requireTrunk_16 (by decide) (fun c_5 => ?_) (fun c_5 => ?_)
      · have hF := iteT hF c_5
        exact gx_throwSW (own := RX4) (cls := "java/lang/IllegalArgumentException") (text := "there is no such trunk") (k := 0) hx hb hl9 hown rfl (by decide +kernel) hw0 hw1 (fun w h => hts w (List.mem_cons_of_mem _ (List.mem_append_right _ h))) gnoX4_90 ggdX4_86_90 hOK (List.mem_of_getElem? (i := 27) rfl) (by rw [hml]; exact hl.1) ht9 hlocks hP hK hD hS dX4_requireTrunk_28 dX4_requireTrunk_31 dX4_requireTrunk_32 dX4_requireTrunk_35 dX4_requireTrunk_38 ⟨by decide, by decide, by decide, by decide⟩ hF
      · have hF := iteF hF c_5
        refine lv_iload_n hx hb dX4_requireTrunk_19 rfl (lv_at hl 2 rfl) ?_
        refine lv_if_lt (tgt := 28) hx hb dX4_requireTrunk_20 (by decide) (fun c_6 => ?_) (fun c_6 => ?_)
        · have hF := iteT hF c_6
          exact gx_throwSW (own := RX4) (cls := "java/lang/IllegalArgumentException") (text := "there is no such trunk") (k := 0) hx hb hl9 hown rfl (by decide +kernel) hw0 hw1 (fun w h => hts w (List.mem_cons_of_mem _ (List.mem_append_right _ h))) gnoX4_90 ggdX4_86_90 hOK (List.mem_of_getElem? (i := 27) rfl) (by rw [hml]; exact hl.1) ht9 hlocks hP hK hD hS dX4_requireTrunk_28 dX4_requireTrunk_31 dX4_requireTrunk_32 dX4_requireTrunk_35 dX4_requireTrunk_38 ⟨by decide, by decide, by decide, by decide⟩ hF
        · have hF := iteF hF c_6
          refine lv_iload_n hx hb dX4_requireTrunk_23 rfl (lv_at hl 2 rfl) ?_
          refine lv_iconst (v := 2) hx hb dX4_requireTrunk_24 (by decide) ?_
          refine lv_icmp_lt (tgt := 39) hx hb dX4_requireTrunk_25 (by decide) (fun c_7 => ?_) (fun c_7 => ?_)
          · have hF := iteT hF c_7
            exact g_vretX hx hb hr hlocks hP hK hD hS dX4_requireTrunk_39 hF
          · have hF := iteF hF c_7
            exact gx_throwSW (own := RX4) (cls := "java/lang/IllegalArgumentException") (text := "there is no such trunk") (k := 0) hx hb hl9 hown rfl (by decide +kernel) hw0 hw1 (fun w h => hts w (List.mem_cons_of_mem _ (List.mem_append_right _ h))) gnoX4_90 ggdX4_86_90 hOK (List.mem_of_getElem? (i := 27) rfl) (by rw [hml]; exact hl.1) ht9 hlocks hP hK hD hS dX4_requireTrunk_28 dX4_requireTrunk_31 dX4_requireTrunk_32 dX4_requireTrunk_35 dX4_requireTrunk_38 ⟨by decide, by decide, by decide, by decide⟩ hF
set_option maxHeartbeats 4000000 in
set_option maxRecDepth 100000 in
theorem tyc_B_trunkHas (l : Launch) (D : va_G) (ad : Nat → Nat) (cA : Nat → ClassId) (sz : Nat) (σ : tyS) (p1 : Int32) (r : Int32) (hF : tyf_B_trunkHas σ p1 = some r) : gMi l yX3_trunkHas wsX3_trunkHas ({ frames := 0, cells := 0, slots := 0, locals := 0 } : Room) D (wC ad cA) (tC cA) [.ref (ad 5), .int p1] sz σ r σ := by
  refine Met.ofW (cc := cX3_trunkHas) (maxL := 2) (ret := (some .int)) (by decide) rfl ?_
  intro p e s m args below meth c s₁ B hml hv
  obtain ⟨rfl, hsz, hP, hK, hD0, hNN⟩ := hv
  have hx := B.exec
  have hb := B.bytes
  have hr := B.returns
  have hts := atoms_spec (ws := wsX3_trunkHas) B.pre
  have hown : s.vm.findClass RX3 = some m.cls := findClass_of_methodNamed B.named
  have hlocks := B.notSynchronized
  subst hsz
  have hD := hD0.self (sz := s.heap.size)
  generalize hAe : va_A (wC ad cA σ) s.heap.size = A at hD ⊢
  have hA : ∀ q : Nat, s.heap.size ≤ q → A q := fun q h => by rw [← hAe]; exact Or.inr h
  clear hAe hD0
  have hS : va_S A s.heap s.heap [] := va_S.rf
  have hl := lv_entry ([.ref (ad 5), .int p1]) (n := 2) (Nat.le_of_ble_eq_true rfl)
  rw [lg_entry_eq]
  generalize (lg_sl ([.ref (ad 5), .int p1]) ++ List.replicate (2 - (lg_sl ([.ref (ad 5), .int p1])).length) Slot.unset).toArray = ls at hl ⊢
  have hl : lv_has ls 2 [(0, .ref (ad 5)), (1, .int p1)] := hl
  have hw0 := hts (.fieldLink RX3 30 "TrunkYards$Switchboard" "trunks" "[I") (List.mem_cons_of_mem _ (List.mem_of_getElem? (i := 0) rfl))
  have hiX3 : ∀ w ∈ wsX30, w ∈ wsX3_trunkHas := fun w h => List.mem_cons_of_mem _ (List.mem_append_right _ h)
  unfold tyf_B_trunkHas at hF
  refine lv_aload_n hx hb dX3_trunkHas_0 rfl (lv_at hl 0 rfl) ?_
  refine va_get (D := D) (ci := 3) (v := .ref (ad 27)) (C := RX3) (T := TX3) (N := 9) hx hb hts hiX3 hown hK hP 5 (wC_5 ad cA σ) rfl 6 (by decide) hw0 (fun _ h9 => h9) rfl dX3_trunkHas_1 ?_
  refine lv_iload_n hx hb dX3_trunkHas_4 rfl (lv_at hl 1 rfl) ?_
  obtain ⟨hb_1, hF⟩ := chk_some hF
  refine va_iald hx hb hK hP 27 21 (wC_27 ad cA σ) (tC_27 cA) hb_1 dX3_trunkHas_5 ?_
  exact g_iretR hx hb hr rfl hlocks hP hK hD hS dX3_trunkHas_6 hF
set_option maxHeartbeats 4000000 in
set_option maxRecDepth 100000 in
theorem tyc_B_setTrunk (l : Launch) (D : va_G) (ad : Nat → Nat) (cA : Nat → ClassId) (sz : Nat) (σ : tyS) (p1 : Int32) (p2 : Int32) (τ : tyS) (hF : tyf_B_setTrunk σ p1 p2 = some τ) : gMv l yX3_setTrunk wsX3_setTrunk ({ frames := 0, cells := 0, slots := 0, locals := 0 } : Room) D (wC ad cA) (tC cA) [.ref (ad 5), .int p1, .int p2] sz σ τ := by
  refine Met.ofW (cc := cX3_setTrunk) (maxL := 3) (ret := none) (by decide) rfl ?_
  intro p e s m args below meth c s₁ B hml hv
  obtain ⟨rfl, hsz, hP, hK, hD0, hNN⟩ := hv
  have hx := B.exec
  have hb := B.bytes
  have hr := B.returns
  have hts := atoms_spec (ws := wsX3_setTrunk) B.pre
  have hown : s.vm.findClass RX3 = some m.cls := findClass_of_methodNamed B.named
  have hlocks := B.notSynchronized
  subst hsz
  have hD := hD0.self (sz := s.heap.size)
  generalize hAe : va_A (wC ad cA σ) s.heap.size = A at hD ⊢
  have hA : ∀ q : Nat, s.heap.size ≤ q → A q := fun q h => by rw [← hAe]; exact Or.inr h
  clear hAe hD0
  have hS : va_S A s.heap s.heap [] := va_S.rf
  have hl := lv_entry ([.ref (ad 5), .int p1, .int p2]) (n := 3) (Nat.le_of_ble_eq_true rfl)
  rw [lg_entry_eq]
  generalize (lg_sl ([.ref (ad 5), .int p1, .int p2]) ++ List.replicate (3 - (lg_sl ([.ref (ad 5), .int p1, .int p2])).length) Slot.unset).toArray = ls at hl ⊢
  have hl : lv_has ls 3 [(0, .ref (ad 5)), (1, .int p1), (2, .int p2)] := hl
  have hw0 := hts (.fieldLink RX3 30 "TrunkYards$Switchboard" "trunks" "[I") (List.mem_cons_of_mem _ (List.mem_of_getElem? (i := 0) rfl))
  have hiX3 : ∀ w ∈ wsX30, w ∈ wsX3_setTrunk := fun w h => List.mem_cons_of_mem _ (List.mem_append_right _ h)
  unfold tyf_B_setTrunk at hF
  refine lv_aload_n hx hb dX3_setTrunk_0 rfl (lv_at hl 0 rfl) ?_
  refine va_get (D := D) (ci := 3) (v := .ref (ad 27)) (C := RX3) (T := TX3) (N := 9) hx hb hts hiX3 hown hK hP 5 (wC_5 ad cA σ) rfl 6 (by decide) hw0 (fun _ h9 => h9) rfl dX3_setTrunk_1 ?_
  refine lv_iload_n hx hb dX3_setTrunk_4 rfl (lv_at hl 1 rfl) ?_
  refine lv_iload_n hx hb dX3_setTrunk_5 rfl (lv_at hl 2 rfl) ?_
  obtain ⟨hb_1, hF⟩ := chk_some hF
  obtain ⟨σ2, e2, hF⟩ := stp_some hF
  refine gw_iast hx hb hK hP hD hS (wC_27 ad cA σ) (tC_27 cA) (wCs_27 ad cA σ) hb_1 dX3_setTrunk_6 e2 (fun H locs hP hD hS => ?_)
  exact g_vretN hx hb hr hlocks hP hK hD hS dX3_setTrunk_7 hF
set_option maxHeartbeats 4000000 in
set_option maxRecDepth 100000 in
theorem tyc_L_halve (l : Launch) (D : va_G) (ad : Nat → Nat) (cA : Nat → ClassId) (sz : Nat) (σ : tyS) (p1 : Int32) (p2 : Int32) (τ : tyS) (hF : tyf_L_halve σ p1 p2 = some τ) : gMv l yX1_halve wsX1_halve ({ frames := 0, cells := 0, slots := 0, locals := 0 } : Room) D (wC ad cA) (tC cA) [.ref (ad 4), .int p1, .int p2] sz σ τ := by
  refine Met.ofW (cc := cX1_halve) (maxL := 3) (ret := none) (by decide) rfl ?_
  intro p e s m args below meth c s₁ B hml hv
  obtain ⟨rfl, hsz, hP, hK, hD0, hNN⟩ := hv
  have hx := B.exec
  have hb := B.bytes
  have hr := B.returns
  have hts := atoms_spec (ws := wsX1_halve) B.pre
  have hown : s.vm.findClass RX1 = some m.cls := findClass_of_methodNamed B.named
  have hlocks := B.notSynchronized
  subst hsz
  have hD := hD0.self (sz := s.heap.size)
  generalize hAe : va_A (wC ad cA σ) s.heap.size = A at hD ⊢
  have hA : ∀ q : Nat, s.heap.size ≤ q → A q := fun q h => by rw [← hAe]; exact Or.inr h
  clear hAe hD0
  have hS : va_S A s.heap s.heap [] := va_S.rf
  have hl := lv_entry ([.ref (ad 4), .int p1, .int p2]) (n := 3) (Nat.le_of_ble_eq_true rfl)
  rw [lg_entry_eq]
  generalize (lg_sl ([.ref (ad 4), .int p1, .int p2]) ++ List.replicate (3 - (lg_sl ([.ref (ad 4), .int p1, .int p2])).length) Slot.unset).toArray = ls at hl ⊢
  have hl : lv_has ls 3 [(0, .ref (ad 4)), (1, .int p1), (2, .int p2)] := hl
  have hw0 := hts (.fieldLink RX1 21 "TrunkYards$Ledger" "standings" "[I") (List.mem_cons_of_mem _ (List.mem_of_getElem? (i := 0) rfl))
  have hiX1 : ∀ w ∈ wsX10, w ∈ wsX1_halve := fun w h => List.mem_cons_of_mem _ (List.mem_append_right _ h)
  have hw2 := hts (.fieldLink RX1 24 "TrunkYards$Ledger" "lapseTicks" "[I") (List.mem_cons_of_mem _ (List.mem_of_getElem? (i := 1) rfl))
  unfold tyf_L_halve at hF
  refine lv_aload_n hx hb dX1_halve_0 rfl (lv_at hl 0 rfl) ?_
  refine va_get (D := D) (ci := 1) (v := .ref (ad 16)) (C := RX1) (T := TX1) (N := 9) hx hb hts hiX1 hown hK hP 4 (wC_4 ad cA σ) rfl 3 (by decide) hw0 (fun _ h9 => h9) rfl dX1_halve_1 ?_
  refine lv_iload_n hx hb dX1_halve_4 rfl (lv_at hl 1 rfl) ?_
  refine lv_iconst (v := 1) hx hb dX1_halve_5 (by decide) ?_
  obtain ⟨hb_1, hF⟩ := chk_some hF
  obtain ⟨σ2, e2, hF⟩ := stp_some hF
  refine gw_iast hx hb hK hP hD hS (wC_16 ad cA σ) (tC_16 cA) (wCs_16 ad cA σ) hb_1 dX1_halve_6 e2 (fun H locs hP hD hS => ?_)
  refine lv_aload_n hx hb dX1_halve_7 rfl (lv_at hl 0 rfl) ?_
  refine va_get (D := D) (ci := 1) (v := .ref (ad 17)) (C := RX1) (T := TX1) (N := 9) hx hb hts hiX1 hown hK hP 4 (wC_4 ad cA σ2) rfl 4 (by decide) hw2 (fun _ h9 => h9) rfl dX1_halve_8 ?_
  refine lv_iload_n hx hb dX1_halve_11 rfl (lv_at hl 1 rfl) ?_
  refine lv_iload_n hx hb dX1_halve_12 rfl (lv_at hl 2 rfl) ?_
  refine lv_bipush (v := 10) hx hb dX1_halve_13 (by decide) ?_
  refine lv_iadd hx hb dX1_halve_15 ?_
  obtain ⟨hb_3, hF⟩ := chk_some hF
  obtain ⟨σ4, e4, hF⟩ := stp_some hF
  refine gw_iast hx hb hK hP hD hS (wC_17 ad cA σ2) (tC_17 cA) (wCs_17 ad cA σ2) hb_3 dX1_halve_16 e4 (fun H locs hP hD hS => ?_)
  exact g_vretN hx hb hr hlocks hP hK hD hS dX1_halve_17 hF
set_option maxHeartbeats 4000000 in
set_option maxRecDepth 100000 in
theorem tyc_T_cutOff (l : Launch) (D : va_G) (ad : Nat → Nat) (cA : Nat → ClassId) (sz : Nat) (σ : tyS) (p1 : Int32) (τ : tyS) (hF : tyf_T_cutOff σ p1 = some τ) : gMv l yX4_cutOff wsX4_cutOff ({ frames := 2, cells := 0, slots := 0, locals := 43 } : Room) D (wC ad cA) (tC cA) [.ref (ad 0), .int p1] sz σ τ := by
  refine Met.ofW (cc := cX4_cutOff) (maxL := 3) (ret := none) (by decide) rfl ?_
  intro p e s m args below meth c s₁ B hml hv
  obtain ⟨rfl, hsz, hP, hK, hD0, hNN⟩ := hv
  have hx := B.exec
  have hb := B.bytes
  have hr := B.returns
  have hts := atoms_spec (ws := wsX4_cutOff) B.pre
  have hown : s.vm.findClass RX4 = some m.cls := findClass_of_methodNamed B.named
  have hlocks := B.notSynchronized
  subst hsz
  have hD := hD0.self (sz := s.heap.size)
  generalize hAe : va_A (wC ad cA σ) s.heap.size = A at hD ⊢
  have hA : ∀ q : Nat, s.heap.size ≤ q → A q := fun q h => by rw [← hAe]; exact Or.inr h
  clear hAe hD0
  have hS : va_S A s.heap s.heap [] := va_S.rf
  have hl := lv_entry ([.ref (ad 0), .int p1]) (n := 3) (Nat.le_of_ble_eq_true rfl)
  rw [lg_entry_eq]
  generalize (lg_sl ([.ref (ad 0), .int p1]) ++ List.replicate (3 - (lg_sl ([.ref (ad 0), .int p1])).length) Slot.unset).toArray = ls at hl ⊢
  have hl : lv_has ls 3 [(0, .ref (ad 0)), (1, .int p1)] := hl
  have hS9 : CallFix p m c cX4_cutOff 3 s _ wsX4_cutOff RX4 := ⟨hx, hb, hml, hown, hts⟩
  have hw0 := hts (.fieldLink RX4 36 "TrunkYards" "board" "LTrunkYards$Switchboard;") (List.mem_cons_of_mem _ (List.mem_of_getElem? (i := 0) rfl))
  have hiX4 : ∀ w ∈ wsX40, w ∈ wsX4_cutOff := fun w h => List.mem_cons_of_mem _ (List.mem_append_left _ (List.mem_append_left _ (List.mem_append_right _ h)))
  have hw2 := hts (.fieldLink RX4 29 "TrunkYards" "ledger" "LTrunkYards$Ledger;") (List.mem_cons_of_mem _ (List.mem_of_getElem? (i := 1) rfl))
  have hw3 := hts (.fieldLink RX4 246 "TrunkYards" "now" "I") (List.mem_cons_of_mem _ (List.mem_of_getElem? (i := 2) rfl))
  unfold tyf_T_cutOff at hF
  refine lv_aload_n hx hb dX4_cutOff_0 rfl (lv_at hl 0 rfl) ?_
  refine va_get (D := D) (ci := 4) (v := .ref (ad 5)) (C := RX4) (T := TX4) (N := 12) hx hb hts hiX4 hown hK hP 0 (wC_0 ad cA σ) rfl 4 (by decide) hw0 (fun _ h9 => h9) rfl dX4_cutOff_1 ?_
  refine lv_iload_n hx hb dX4_cutOff_4 rfl (lv_at hl 1 rfl) ?_
  obtain ⟨r1, er1, hF⟩ := bR_some hF
  refine gc_Vi (As := [.int p1]) hS9 (tyc_B_openBooking l D ad cA _ σ p1 r1 er1) (cwV 1 hts gX4_cutOff_X3_openBooking rfl rfl rfl hd_X3_openBooking ⟨by decide, by decide⟩) hK hP hD hS hA hNN (ci := 3) (q0 := 5) (N := 9) rfl (wC_5 ad cA σ) rfl hl.1 rfl (Nat.le_of_ble_eq_true rfl) dX4_cutOff_5 (fun H locs hP hD hS => ?_)
  refine lv_istore_n (lv' := [(2, .int r1), (0, .ref (ad 0)), (1, .int p1)]) hx hb dX4_cutOff_8 rfl hl (by decide) rfl (fun ls hl => ?_)
  refine lv_aload_n hx hb dX4_cutOff_9 rfl (lv_at hl 1 rfl) ?_
  refine va_get (D := D) (ci := 4) (v := .ref (ad 5)) (C := RX4) (T := TX4) (N := 12) hx hb hts hiX4 hown hK hP 0 (wC_0 ad cA σ) rfl 4 (by decide) hw0 (fun _ h9 => h9) rfl dX4_cutOff_10 ?_
  refine lv_iload_n hx hb dX4_cutOff_13 rfl (lv_at hl 2 rfl) ?_
  obtain ⟨σ2, e2, hF⟩ := bR_some hF
  refine gc_Vv (As := [.int p1]) hS9 (tyc_B_end l D ad cA _ σ p1 σ2 e2) (cwV 1 hts gX4_cutOff_X3_end rfl rfl rfl hd_X3_end ⟨by decide, by decide⟩) hK hP hD hS hA hNN (ci := 3) (q0 := 5) (N := 9) rfl (wC_5 ad cA σ) rfl hl.1 rfl (Nat.le_of_ble_eq_true rfl) dX4_cutOff_14 (fun H locs hP hD hS => ?_)
  refine lv_iload_n hx hb dX4_cutOff_17 rfl (lv_at hl 0 rfl) ?_
  refine lv_iconst (v := (-1)) hx hb dX4_cutOff_18 (by decide) ?_
  refine lv_icmp_eq (tgt := 34) hx hb dX4_cutOff_19 (by decide) (fun c_3 => ?_) (fun c_3 => ?_)
  · have hF := iteT hF c_3
    exact g_vretN hx hb hr hlocks hP hK hD hS dX4_cutOff_34 hF
  · have hF := iteF hF c_3
    refine lv_aload_n hx hb dX4_cutOff_22 rfl (lv_at hl 1 rfl) ?_
    refine va_get (D := D) (ci := 4) (v := .ref (ad 4)) (C := RX4) (T := TX4) (N := 12) hx hb hts hiX4 hown hK hP 0 (wC_0 ad cA σ2) rfl 3 (by decide) hw2 (fun _ h9 => h9) rfl dX4_cutOff_23 ?_
    refine lv_iload_n hx hb dX4_cutOff_26 rfl (lv_at hl 0 rfl) ?_
    refine lv_aload_n hx hb dX4_cutOff_27 rfl (lv_at hl 1 rfl) ?_
    refine va_get (D := D) (ci := 4) (v := .int (σ2.2 3)) (C := RX4) (T := TX4) (N := 12) hx hb hts hiX4 hown hK hP 0 (wC_0 ad cA σ2) rfl 11 (by decide) hw3 (fun _ h9 => h9) rfl dX4_cutOff_28 ?_
    obtain ⟨σ4, e4, hF⟩ := bR_some hF
    refine gc_Vv (As := [.int r1, .int (σ2.2 3)]) hS9 (tyc_L_halve l D ad cA _ σ2 r1 (σ2.2 3) σ4 e4) (cwV 2 hts gX4_cutOff_X1_halve rfl rfl rfl hd_X1_halve ⟨by decide, by decide⟩) hK hP hD hS hA hNN (ci := 1) (q0 := 4) (N := 9) rfl (wC_4 ad cA σ2) rfl hl.1 rfl (Nat.le_of_ble_eq_true rfl) dX4_cutOff_31 (fun H locs hP hD hS => ?_)
    exact g_vretN hx hb hr hlocks hP hK hD hS dX4_cutOff_34 hF
