set_option maxHeartbeats 4000000 in
set_option maxRecDepth 100000 in
theorem tyc_M_cancel (l : Launch) (D : va_G) (ad : Nat → Nat) (cA : Nat → ClassId) (sz : Nat) (σ : tyS) (p1 : Int32) (p2 : Int32) (r : Int32) (τ : tyS) (hF : tyf_M_cancel σ p1 p2 = some (r, τ)) : gMi l yX5_cancel wsX5_cancel ({ frames := 2, cells := 0, slots := 0, locals := 43 } : Room) D (wM ad cA) (tM cA) [.ref (ad 0), .int p1, .int p2] sz σ r τ := by
  refine Met.ofW (cc := cX5_cancel) (maxL := 3) (ret := (some .int)) (by decide) rfl ?_
  intro p e s m args below meth c s₁ B hml hv
  obtain ⟨rfl, hsz, hP, hK, hD0, hNN⟩ := hv
  have hx := B.exec
  have hb := B.bytes
  have hr := B.returns
  have hts := atoms_spec (ws := wsX5_cancel) B.pre
  have hown : s.vm.findClass RX5 = some m.cls := findClass_of_methodNamed B.named
  have hlocks := B.notSynchronized
  subst hsz
  have hD := hD0.self (sz := s.heap.size)
  generalize hAe : va_A (wM ad cA σ) s.heap.size = A at hD ⊢
  have hA : ∀ q : Nat, s.heap.size ≤ q → A q := fun q h => by rw [← hAe]; exact Or.inr h
  clear hAe hD0
  have hS : va_S A s.heap s.heap [] := va_S.rf
  have hl := lv_entry ([.ref (ad 0), .int p1, .int p2]) (n := 3) (Nat.le_of_ble_eq_true rfl)
  rw [lg_entry_eq]
  generalize (lg_sl ([.ref (ad 0), .int p1, .int p2]) ++ List.replicate (3 - (lg_sl ([.ref (ad 0), .int p1, .int p2])).length) Slot.unset).toArray = ls at hl ⊢
  have hl : lv_has ls 3 [(0, .ref (ad 0)), (1, .int p1), (2, .int p2)] := hl
  have hS9 : CallFix p m c cX5_cancel 3 s _ wsX5_cancel RX5 := ⟨hx, hb, hml, hown, hts⟩
  have hw0 := hts (.fieldLink RX5 80 "TrunkYardsModel" "thrown" "I") (List.mem_cons_of_mem _ (List.mem_of_getElem? (i := 0) rfl))
  have hiX5 : ∀ w ∈ wsX50, w ∈ wsX5_cancel := fun w h => List.mem_cons_of_mem _ (List.mem_append_right _ h)
  have hw2 := hts (.fieldLink RX5 40 "TrunkYardsModel" "goesOn" "[Z") (List.mem_cons_of_mem _ (List.mem_of_getElem? (i := 1) rfl))
  have hw3 := hts (.fieldLink RX5 47 "TrunkYardsModel" "state" "[I") (List.mem_cons_of_mem _ (List.mem_of_getElem? (i := 2) rfl))
  have hw4 := hts (.fieldLink RX5 62 "TrunkYardsModel" "many" "[I") (List.mem_cons_of_mem _ (List.mem_of_getElem? (i := 3) rfl))
  unfold tyf_M_cancel at hF
  refine lv_aload_n hx hb dX5_cancel_0 rfl (lv_at hl 0 rfl) ?_
  refine lv_aload_n hx hb dX5_cancel_1 rfl (lv_at hl 0 rfl) ?_
  refine lv_iload_n hx hb dX5_cancel_2 rfl (lv_at hl 1 rfl) ?_
  obtain ⟨r1, er1, hF⟩ := bR_some hF
  refine gc_Vi (As := [.int p1]) hS9 (tyc_M_isCall l D ad cA _ σ p1 r1 er1) (cwV 1 hts gX5_cancel_X5_isCall rfl rfl rfl hd_X5_isCall ⟨by decide, by decide⟩) hK hP hD hS hA hNN (ci := 5) (q0 := 0) (N := 30) rfl (wM_0 ad cA σ) rfl hl.1 rfl (Nat.le_of_ble_eq_true rfl) dX5_cancel_3 (fun H locs hP hD hS => ?_)
  refine lv_if_eq (tgt := 21) hx hb dX5_cancel_6 (by decide) (fun c_2 => ?_) (fun c_2 => ?_)
  · have hF := iteT hF c_2
    refine lv_iconst (v := 1) hx hb dX5_cancel_21 (by decide) ?_
    obtain ⟨σ3, e3, hF⟩ := stp_some hF
    refine gw_put hx hb hts hiX5 tyX5 tyX5_ok nmX5 hown hK hP hD hS 0 (wM_0 ad cA σ) rfl 0 (by decide) hw0 (fun _ h9 => h9) rfl (by decide +kernel) (show 0 < 30 from by decide) (wMv_0 ad cA σ _) dX5_cancel_22 e3 (fun H locs hP hD hS => ?_)
    refine lv_aload_n hx hb dX5_cancel_25 rfl (lv_at hl 0 rfl) ?_
    refine va_get (D := D) (ci := 5) (v := .int (σ3.2 0)) (C := RX5) (T := TX5) (N := 30) hx hb hts hiX5 hown hK hP 0 (wM_0 ad cA σ3) rfl 0 (by decide) hw0 (fun _ h9 => h9) rfl dX5_cancel_26 ?_
    refine lv_as (y := 1) (by rw [e3]; rfl) ?_
    refine lv_if_ne (tgt := 69) hx hb dX5_cancel_29 (by decide) (fun _ => ?_) (fun h9 => absurd h9 (by decide))
    refine lv_aload_n hx hb dX5_cancel_69 rfl (lv_at hl 0 rfl) ?_
    refine va_get (D := D) (ci := 5) (v := .int (σ3.2 0)) (C := RX5) (T := TX5) (N := 30) hx hb hts hiX5 hown hK hP 0 (wM_0 ad cA σ3) rfl 0 (by decide) hw0 (fun _ h9 => h9) rfl dX5_cancel_70 ?_
    refine lv_as (y := 1) (by rw [e3]; rfl) ?_
    refine lv_if_le (tgt := 78) hx hb dX5_cancel_73 (by decide) (fun h9 => absurd h9 (by decide)) (fun _ => ?_)
    refine lv_iconst (v := 0) hx hb dX5_cancel_76 (by decide) ?_
    exact g_iretN hx hb hr rfl hlocks hP hK hD hS dX5_cancel_77 hF
  · have hF := iteF hF c_2
    refine lv_aload_n hx hb dX5_cancel_9 rfl (lv_at hl 0 rfl) ?_
    refine lv_iload_n hx hb dX5_cancel_10 rfl (lv_at hl 2 rfl) ?_
    obtain ⟨r4, er4, hF⟩ := bR_some hF
    refine gc_Vi (As := [.int p2]) hS9 (tyc_M_isBooking l D ad cA _ σ p2 r4 er4) (cwV 1 hts gX5_cancel_X5_isBooking rfl rfl rfl hd_X5_isBooking ⟨by decide, by decide⟩) hK hP hD hS hA hNN (ci := 5) (q0 := 0) (N := 30) rfl (wM_0 ad cA σ) rfl hl.1 rfl (Nat.le_of_ble_eq_true rfl) dX5_cancel_11 (fun H locs hP hD hS => ?_)
    refine lv_if_eq (tgt := 21) hx hb dX5_cancel_14 (by decide) (fun c_5 => ?_) (fun c_5 => ?_)
    · have hF := iteT hF c_5
      refine lv_iconst (v := 1) hx hb dX5_cancel_21 (by decide) ?_
      obtain ⟨σ6, e6, hF⟩ := stp_some hF
      refine gw_put hx hb hts hiX5 tyX5 tyX5_ok nmX5 hown hK hP hD hS 0 (wM_0 ad cA σ) rfl 0 (by decide) hw0 (fun _ h9 => h9) rfl (by decide +kernel) (show 0 < 30 from by decide) (wMv_0 ad cA σ _) dX5_cancel_22 e6 (fun H locs hP hD hS => ?_)
      refine lv_aload_n hx hb dX5_cancel_25 rfl (lv_at hl 0 rfl) ?_
      refine va_get (D := D) (ci := 5) (v := .int (σ6.2 0)) (C := RX5) (T := TX5) (N := 30) hx hb hts hiX5 hown hK hP 0 (wM_0 ad cA σ6) rfl 0 (by decide) hw0 (fun _ h9 => h9) rfl dX5_cancel_26 ?_
      refine lv_as (y := 1) (by rw [e6]; rfl) ?_
      refine lv_if_ne (tgt := 69) hx hb dX5_cancel_29 (by decide) (fun _ => ?_) (fun h9 => absurd h9 (by decide))
      refine lv_aload_n hx hb dX5_cancel_69 rfl (lv_at hl 0 rfl) ?_
      refine va_get (D := D) (ci := 5) (v := .int (σ6.2 0)) (C := RX5) (T := TX5) (N := 30) hx hb hts hiX5 hown hK hP 0 (wM_0 ad cA σ6) rfl 0 (by decide) hw0 (fun _ h9 => h9) rfl dX5_cancel_70 ?_
      refine lv_as (y := 1) (by rw [e6]; rfl) ?_
      refine lv_if_le (tgt := 78) hx hb dX5_cancel_73 (by decide) (fun h9 => absurd h9 (by decide)) (fun _ => ?_)
      refine lv_iconst (v := 0) hx hb dX5_cancel_76 (by decide) ?_
      exact g_iretN hx hb hr rfl hlocks hP hK hD hS dX5_cancel_77 hF
    · have hF := iteF hF c_5
      refine lv_iconst (v := 0) hx hb dX5_cancel_17 (by decide) ?_
      refine lv_goto (tgt := 22) hx hb dX5_cancel_18 (by decide) ?_
      obtain ⟨σ7, e7, hF⟩ := stp_some hF
      refine gw_put hx hb hts hiX5 tyX5 tyX5_ok nmX5 hown hK hP hD hS 0 (wM_0 ad cA σ) rfl 0 (by decide) hw0 (fun _ h9 => h9) rfl (by decide +kernel) (show 0 < 30 from by decide) (wMv_0 ad cA σ _) dX5_cancel_22 e7 (fun H locs hP hD hS => ?_)
      refine lv_aload_n hx hb dX5_cancel_25 rfl (lv_at hl 0 rfl) ?_
      refine va_get (D := D) (ci := 5) (v := .int (σ7.2 0)) (C := RX5) (T := TX5) (N := 30) hx hb hts hiX5 hown hK hP 0 (wM_0 ad cA σ7) rfl 0 (by decide) hw0 (fun _ h9 => h9) rfl dX5_cancel_26 ?_
      refine lv_as (y := 0) (by rw [e7]; rfl) ?_
      refine lv_if_ne (tgt := 69) hx hb dX5_cancel_29 (by decide) (fun h9 => absurd h9 (by decide)) (fun _ => ?_)
      refine lv_aload_n hx hb dX5_cancel_32 rfl (lv_at hl 0 rfl) ?_
      refine lv_aload_n hx hb dX5_cancel_33 rfl (lv_at hl 0 rfl) ?_
      refine va_get (D := D) (ci := 5) (v := .ref (ad 11)) (C := RX5) (T := TX5) (N := 30) hx hb hts hiX5 hown hK hP 0 (wM_0 ad cA σ7) rfl 15 (by decide) hw2 (fun _ h9 => h9) rfl dX5_cancel_34 ?_
      refine lv_iload_n hx hb dX5_cancel_37 rfl (lv_at hl 1 rfl) ?_
      obtain ⟨hb_8, hF⟩ := chk_some hF
      refine va_zald hx hb hK hP 11 10 (wM_11 ad cA σ7) (tM_11 cA) hb_8 dX5_cancel_38 ?_
      refine lv_if_eq (tgt := 65) hx hb dX5_cancel_39 (by decide) (fun c_9 => ?_) (fun c_9 => ?_)
      · have hF := iteT hF c_9
        refine lv_iconst (v := 2) hx hb dX5_cancel_65 (by decide) ?_
        obtain ⟨σ10, e10, hF⟩ := stp_some hF
        refine gw_put hx hb hts hiX5 tyX5 tyX5_ok nmX5 hown hK hP hD hS 0 (wM_0 ad cA σ7) rfl 0 (by decide) hw0 (fun _ h9 => h9) rfl (by decide +kernel) (show 0 < 30 from by decide) (wMv_0 ad cA σ7 _) dX5_cancel_66 e10 (fun H locs hP hD hS => ?_)
        refine lv_aload_n hx hb dX5_cancel_69 rfl (lv_at hl 0 rfl) ?_
        refine va_get (D := D) (ci := 5) (v := .int (σ10.2 0)) (C := RX5) (T := TX5) (N := 30) hx hb hts hiX5 hown hK hP 0 (wM_0 ad cA σ10) rfl 0 (by decide) hw0 (fun _ h9 => h9) rfl dX5_cancel_70 ?_
        refine lv_as (y := 2) (by rw [e10]; rfl) ?_
        refine lv_if_le (tgt := 78) hx hb dX5_cancel_73 (by decide) (fun h9 => absurd h9 (by decide)) (fun _ => ?_)
        refine lv_iconst (v := 0) hx hb dX5_cancel_76 (by decide) ?_
        exact g_iretN hx hb hr rfl hlocks hP hK hD hS dX5_cancel_77 hF
      · have hF := iteF hF c_9
        refine lv_aload_n hx hb dX5_cancel_42 rfl (lv_at hl 0 rfl) ?_
        refine va_get (D := D) (ci := 5) (v := .ref (ad 13)) (C := RX5) (T := TX5) (N := 30) hx hb hts hiX5 hown hK hP 0 (wM_0 ad cA σ7) rfl 18 (by decide) hw3 (fun _ h9 => h9) rfl dX5_cancel_43 ?_
        refine lv_iload_n hx hb dX5_cancel_46 rfl (lv_at hl 2 rfl) ?_
        obtain ⟨hb_11, hF⟩ := chk_some hF
        refine va_iald hx hb hK hP 13 12 (wM_13 ad cA σ7) (tM_13 cA) hb_11 dX5_cancel_47 ?_
        refine lv_iconst (v := 2) hx hb dX5_cancel_48 (by decide) ?_
        refine lv_icmp_ne (tgt := 65) hx hb dX5_cancel_49 (by decide) (fun c_12 => ?_) (fun c_12 => ?_)
        · have hF := iteF hF c_12
          refine lv_iconst (v := 2) hx hb dX5_cancel_65 (by decide) ?_
          obtain ⟨σ13, e13, hF⟩ := stp_some hF
          refine gw_put hx hb hts hiX5 tyX5 tyX5_ok nmX5 hown hK hP hD hS 0 (wM_0 ad cA σ7) rfl 0 (by decide) hw0 (fun _ h9 => h9) rfl (by decide +kernel) (show 0 < 30 from by decide) (wMv_0 ad cA σ7 _) dX5_cancel_66 e13 (fun H locs hP hD hS => ?_)
          refine lv_aload_n hx hb dX5_cancel_69 rfl (lv_at hl 0 rfl) ?_
          refine va_get (D := D) (ci := 5) (v := .int (σ13.2 0)) (C := RX5) (T := TX5) (N := 30) hx hb hts hiX5 hown hK hP 0 (wM_0 ad cA σ13) rfl 0 (by decide) hw0 (fun _ h9 => h9) rfl dX5_cancel_70 ?_
          refine lv_as (y := 2) (by rw [e13]; rfl) ?_
          refine lv_if_le (tgt := 78) hx hb dX5_cancel_73 (by decide) (fun h9 => absurd h9 (by decide)) (fun _ => ?_)
          refine lv_iconst (v := 0) hx hb dX5_cancel_76 (by decide) ?_
          exact g_iretN hx hb hr rfl hlocks hP hK hD hS dX5_cancel_77 hF
        · have hF := iteT hF c_12
          refine lv_aload_n hx hb dX5_cancel_52 rfl (lv_at hl 0 rfl) ?_
          refine lv_iload_n hx hb dX5_cancel_53 rfl (lv_at hl 1 rfl) ?_
          refine lv_iload_n hx hb dX5_cancel_54 rfl (lv_at hl 2 rfl) ?_
          obtain ⟨r14, er14, hF⟩ := bR_some hF
          refine gc_Vi (As := [.int p1, .int p2]) hS9 (tyc_M_isOf l D ad cA _ σ7 p1 p2 r14 er14) (cwV 2 hts gX5_cancel_X5_isOf rfl rfl rfl hd_X5_isOf ⟨by decide, by decide⟩) hK hP hD hS hA hNN (ci := 5) (q0 := 0) (N := 30) rfl (wM_0 ad cA σ7) rfl hl.1 rfl (Nat.le_of_ble_eq_true rfl) dX5_cancel_55 (fun H locs hP hD hS => ?_)
          refine lv_if_eq (tgt := 65) hx hb dX5_cancel_58 (by decide) (fun c_15 => ?_) (fun c_15 => ?_)
          · have hF := iteT hF c_15
            refine lv_iconst (v := 2) hx hb dX5_cancel_65 (by decide) ?_
            obtain ⟨σ16, e16, hF⟩ := stp_some hF
            refine gw_put hx hb hts hiX5 tyX5 tyX5_ok nmX5 hown hK hP hD hS 0 (wM_0 ad cA σ7) rfl 0 (by decide) hw0 (fun _ h9 => h9) rfl (by decide +kernel) (show 0 < 30 from by decide) (wMv_0 ad cA σ7 _) dX5_cancel_66 e16 (fun H locs hP hD hS => ?_)
            refine lv_aload_n hx hb dX5_cancel_69 rfl (lv_at hl 0 rfl) ?_
            refine va_get (D := D) (ci := 5) (v := .int (σ16.2 0)) (C := RX5) (T := TX5) (N := 30) hx hb hts hiX5 hown hK hP 0 (wM_0 ad cA σ16) rfl 0 (by decide) hw0 (fun _ h9 => h9) rfl dX5_cancel_70 ?_
            refine lv_as (y := 2) (by rw [e16]; rfl) ?_
            refine lv_if_le (tgt := 78) hx hb dX5_cancel_73 (by decide) (fun h9 => absurd h9 (by decide)) (fun _ => ?_)
            refine lv_iconst (v := 0) hx hb dX5_cancel_76 (by decide) ?_
            exact g_iretN hx hb hr rfl hlocks hP hK hD hS dX5_cancel_77 hF
          · have hF := iteF hF c_15
            refine lv_iconst (v := 0) hx hb dX5_cancel_61 (by decide) ?_
            refine lv_goto (tgt := 66) hx hb dX5_cancel_62 (by decide) ?_
            obtain ⟨σ17, e17, hF⟩ := stp_some hF
            refine gw_put hx hb hts hiX5 tyX5 tyX5_ok nmX5 hown hK hP hD hS 0 (wM_0 ad cA σ7) rfl 0 (by decide) hw0 (fun _ h9 => h9) rfl (by decide +kernel) (show 0 < 30 from by decide) (wMv_0 ad cA σ7 _) dX5_cancel_66 e17 (fun H locs hP hD hS => ?_)
            refine lv_aload_n hx hb dX5_cancel_69 rfl (lv_at hl 0 rfl) ?_
            refine va_get (D := D) (ci := 5) (v := .int (σ17.2 0)) (C := RX5) (T := TX5) (N := 30) hx hb hts hiX5 hown hK hP 0 (wM_0 ad cA σ17) rfl 0 (by decide) hw0 (fun _ h9 => h9) rfl dX5_cancel_70 ?_
            refine lv_as (y := 0) (by rw [e17]; rfl) ?_
            refine lv_if_le (tgt := 78) hx hb dX5_cancel_73 (by decide) (fun _ => ?_) (fun h9 => absurd h9 (by decide))
            refine lv_aload_n hx hb dX5_cancel_78 rfl (lv_at hl 0 rfl) ?_
            refine va_get (D := D) (ci := 5) (v := .ref (ad 13)) (C := RX5) (T := TX5) (N := 30) hx hb hts hiX5 hown hK hP 0 (wM_0 ad cA σ17) rfl 18 (by decide) hw3 (fun _ h9 => h9) rfl dX5_cancel_79 ?_
            refine lv_iload_n hx hb dX5_cancel_82 rfl (lv_at hl 2 rfl) ?_
            refine lv_iconst (v := 5) hx hb dX5_cancel_83 (by decide) ?_
            obtain ⟨hb_18, hF⟩ := chk_some hF
            obtain ⟨σ19, e19, hF⟩ := stp_some hF
            refine gw_iast hx hb hK hP hD hS (wM_13 ad cA σ17) (tM_13 cA) (wMs_13 ad cA σ17) hb_18 dX5_cancel_84 e19 (fun H locs hP hD hS => ?_)
            refine lv_aload_n hx hb dX5_cancel_85 rfl (lv_at hl 0 rfl) ?_
            refine va_get (D := D) (ci := 5) (v := .ref (ad 18)) (C := RX5) (T := TX5) (N := 30) hx hb hts hiX5 hown hK hP 0 (wM_0 ad cA σ19) rfl 23 (by decide) hw4 (fun _ h9 => h9) rfl dX5_cancel_86 ?_
            refine lv_iload_n hx hb dX5_cancel_89 rfl (lv_at hl 2 rfl) ?_
            obtain ⟨hb_20, hF⟩ := chk_some hF
            refine va_iald hx hb hK hP 18 17 (wM_18 ad cA σ19) (tM_18 cA) hb_20 dX5_cancel_90 ?_
            exact g_iretN hx hb hr rfl hlocks hP hK hD hS dX5_cancel_91 hF
set_option maxHeartbeats 4000000 in
set_option maxRecDepth 100000 in
theorem tyc_M_ends (l : Launch) (D : va_G) (ad : Nat → Nat) (cA : Nat → ClassId) (sz : Nat) (σ : tyS) (p1 : Int32) (τ : tyS) (hF : tyf_M_ends σ p1 = some τ) : gMv l yX5_ends wsX5_ends ({ frames := 0, cells := 0, slots := 0, locals := 0 } : Room) D (wM ad cA) (tM cA) [.ref (ad 0), .int p1] sz σ τ := by
  refine Met.ofW (cc := cX5_ends) (maxL := 3) (ret := none) (by decide) rfl ?_
  intro p e s m args below meth c s₁ B hml hv
  obtain ⟨rfl, hsz, hP, hK, hD0, hNN⟩ := hv
  have hx := B.exec
  have hb := B.bytes
  have hr := B.returns
  have hts := atoms_spec (ws := wsX5_ends) B.pre
  have hown : s.vm.findClass RX5 = some m.cls := findClass_of_methodNamed B.named
  have hlocks := B.notSynchronized
  subst hsz
  have hD := hD0.self (sz := s.heap.size)
  generalize hAe : va_A (wM ad cA σ) s.heap.size = A at hD ⊢
  have hA : ∀ q : Nat, s.heap.size ≤ q → A q := fun q h => by rw [← hAe]; exact Or.inr h
  clear hAe hD0
  have hS : va_S A s.heap s.heap [] := va_S.rf
  have hl := lv_entry ([.ref (ad 0), .int p1]) (n := 3) (Nat.le_of_ble_eq_true rfl)
  rw [lg_entry_eq]
  generalize (lg_sl ([.ref (ad 0), .int p1]) ++ List.replicate (3 - (lg_sl ([.ref (ad 0), .int p1])).length) Slot.unset).toArray = ls at hl ⊢
  have hl : lv_has ls 3 [(0, .ref (ad 0)), (1, .int p1)] := hl
  have hw0 := hts (.fieldLink RX5 40 "TrunkYardsModel" "goesOn" "[Z") (List.mem_cons_of_mem _ (List.mem_of_getElem? (i := 0) rfl))
  have hiX5 : ∀ w ∈ wsX50, w ∈ wsX5_ends := fun w h => List.mem_cons_of_mem _ (List.mem_append_right _ h)
  have hw2 := hts (.fieldLink RX5 28 "TrunkYardsModel" "trunk" "[I") (List.mem_cons_of_mem _ (List.mem_of_getElem? (i := 1) rfl))
  unfold tyf_M_ends at hF
  refine lv_aload_n hx hb dX5_ends_0 rfl (lv_at hl 0 rfl) ?_
  refine va_get (D := D) (ci := 5) (v := .ref (ad 11)) (C := RX5) (T := TX5) (N := 30) hx hb hts hiX5 hown hK hP 0 (wM_0 ad cA σ) rfl 15 (by decide) hw0 (fun _ h9 => h9) rfl dX5_ends_1 ?_
  refine lv_iload_n hx hb dX5_ends_4 rfl (lv_at hl 1 rfl) ?_
  refine lv_iconst (v := 0) hx hb dX5_ends_5 (by decide) ?_
  obtain ⟨hb_1, hF⟩ := chk_some hF
  obtain ⟨σ2, e2, hF⟩ := stp_some hF
  refine gw_zast hx hb hK hP hD hS (wM_11 ad cA σ) (tM_11 cA) (wMs_11 ad cA σ) (by decide) hb_1 dX5_ends_6 e2 (fun H locs hP hD hS => ?_)
  refine lv_iconst (v := 0) hx hb dX5_ends_7 (by decide) ?_
  refine lv_istore_n (lv' := [(2, .int 0), (0, .ref (ad 0)), (1, .int p1)]) hx hb dX5_ends_8 rfl hl (by decide) rfl (fun ls hl => ?_)
  have lp9 : ∀ (k : tyS → Int32 → Int32 → Option tyS), (∀ (σ0 : tyS) (x1 : Int32) (x2 : Int32) , k σ0 x1 x2 = some τ → ∀ (H : Heap) (locs : List Loc) (ls : Array Slot), va_P D vwCl (wM ad cA σ0) H → va_D A (wM ad cA σ0) → va_S A s.heap H locs → lv_has ls 3 [(0, .ref (ad 0)), (1, .int x1), (2, .int x2)] → W p l e (headSpec wsX5_ends ({ frames := 0, cells := 0, slots := 0, locals := 0 } : Room)).room s m #[.ref (ad 0), .int p1] below meth c H locs 0 0 (MQ below (gQv D (wM ad cA) (tM cA) A τ) #[.ref (ad 0), .int p1] s 0 0 A) (F0 m 47 ls [])) → ∀ (n : Nat), ∀ (σ0 : tyS) (x1 : Int32) (x2 : Int32) , tyl_M_ends_9 k n σ0 x1 x2 = some τ → ∀ (H : Heap) (locs : List Loc) (ls : Array Slot), va_P D vwCl (wM ad cA σ0) H → va_D A (wM ad cA σ0) → va_S A s.heap H locs → lv_has ls 3 [(0, .ref (ad 0)), (1, .int x1), (2, .int x2)] → W p l e (headSpec wsX5_ends ({ frames := 0, cells := 0, slots := 0, locals := 0 } : Room)).room s m #[.ref (ad 0), .int p1] below meth c H locs 0 0 (MQ below (gQv D (wM ad cA) (tM cA) A τ) #[.ref (ad 0), .int p1] s 0 0 A) (F0 m 9 ls []) := by
    intro k hk n
    induction n with
    | zero =>
      intro σ0 x1 x2 hF
      exact absurd hF (fun h => nomatch h)
    | succ n ih =>
      intro σ0 x1 x2 hF H locs ls hP hD hS hl
      have hF : tyb_M_ends_9 k (tyl_M_ends_9 k n) σ0 x1 x2 = some τ := hF
      unfold tyb_M_ends_9 at hF
      refine lv_iload_n hx hb dX5_ends_9 rfl (lv_at hl 2 rfl) ?_
      refine lv_bipush (v := 6) hx hb dX5_ends_10 (by decide) ?_
      refine lv_icmp_ge (tgt := 47) hx hb dX5_ends_12 (by decide) (fun c_3 => ?_) (fun c_3 => ?_)
      · have hF := iteT hF c_3
        exact hk σ0 x1 x2 hF _ _ _ hP hD hS (lv_sub hl [0, 1, 2] rfl)
      · have hF := iteF hF c_3
        refine lv_aload_n hx hb dX5_ends_15 rfl (lv_at hl 0 rfl) ?_
        refine va_get (D := D) (ci := 5) (v := .ref (ad 7)) (C := RX5) (T := TX5) (N := 30) hx hb hts hiX5 hown hK hP 0 (wM_0 ad cA σ0) rfl 9 (by decide) hw2 (fun _ h9 => h9) rfl dX5_ends_16 ?_
        refine lv_iload_n hx hb dX5_ends_19 rfl (lv_at hl 2 rfl) ?_
        refine lv_aload_n hx hb dX5_ends_20 rfl (lv_at hl 0 rfl) ?_
        refine va_get (D := D) (ci := 5) (v := .ref (ad 7)) (C := RX5) (T := TX5) (N := 30) hx hb hts hiX5 hown hK hP 0 (wM_0 ad cA σ0) rfl 9 (by decide) hw2 (fun _ h9 => h9) rfl dX5_ends_21 ?_
        refine lv_iload_n hx hb dX5_ends_24 rfl (lv_at hl 2 rfl) ?_
        obtain ⟨hb_4, hF⟩ := chk_some hF
        refine va_iald hx hb hK hP 7 6 (wM_7 ad cA σ0) (tM_7 cA) hb_4 dX5_ends_25 ?_
        refine lv_iload_n hx hb dX5_ends_26 rfl (lv_at hl 1 rfl) ?_
        refine lv_icmp_ne (tgt := 34) hx hb dX5_ends_27 (by decide) (fun c_5 => ?_) (fun c_5 => ?_)
        · have hF := iteF hF c_5
          refine lv_aload_n hx hb dX5_ends_34 rfl (lv_at hl 0 rfl) ?_
          refine va_get (D := D) (ci := 5) (v := .ref (ad 7)) (C := RX5) (T := TX5) (N := 30) hx hb hts hiX5 hown hK hP 0 (wM_0 ad cA σ0) rfl 9 (by decide) hw2 (fun _ h9 => h9) rfl dX5_ends_35 ?_
          refine lv_iload_n hx hb dX5_ends_38 rfl (lv_at hl 2 rfl) ?_
          obtain ⟨hb_6, hF⟩ := chk_some hF
          refine va_iald hx hb hK hP 7 6 (wM_7 ad cA σ0) (tM_7 cA) hb_6 dX5_ends_39 ?_
          obtain ⟨hb_7, hF⟩ := chk_some hF
          obtain ⟨σ8, e8, hF⟩ := stp_some hF
          refine gw_iast hx hb hK hP hD hS (wM_7 ad cA σ0) (tM_7 cA) (wMs_7 ad cA σ0) hb_7 dX5_ends_40 e8 (fun H locs hP hD hS => ?_)
          refine lv_iinc (v := (x2 + 1)) (lv' := [(2, .int (x2 + 1)), (0, .ref (ad 0)), (1, .int x1)]) hx hb dX5_ends_41 hl (k := 2) rfl rfl (by decide) rfl (fun ls hl => ?_)
          refine lv_goto (tgt := 9) hx hb dX5_ends_44 (by decide) ?_
          exact ih σ8 x1 (x2 + 1) hF _ _ _ hP hD hS (lv_sub hl [1, 2, 0] rfl)
        · have hF := iteT hF c_5
          refine lv_iconst (v := (-1)) hx hb dX5_ends_30 (by decide) ?_
          refine lv_goto (tgt := 40) hx hb dX5_ends_31 (by decide) ?_
          obtain ⟨hb_9, hF⟩ := chk_some hF
          obtain ⟨σ10, e10, hF⟩ := stp_some hF
          refine gw_iast hx hb hK hP hD hS (wM_7 ad cA σ0) (tM_7 cA) (wMs_7 ad cA σ0) hb_9 dX5_ends_40 e10 (fun H locs hP hD hS => ?_)
          refine lv_iinc (v := (x2 + 1)) (lv' := [(2, .int (x2 + 1)), (0, .ref (ad 0)), (1, .int x1)]) hx hb dX5_ends_41 hl (k := 2) rfl rfl (by decide) rfl (fun ls hl => ?_)
          refine lv_goto (tgt := 9) hx hb dX5_ends_44 (by decide) ?_
          exact ih σ10 x1 (x2 + 1) hF _ _ _ hP hD hS (lv_sub hl [1, 2, 0] rfl)
  refine lp9 _ ?_ 64 σ2 p1 0 hF _ _ _ hP hD hS (lv_sub hl [1, 2, 0] rfl)
  intro σ0 x1 x2 hF H locs ls hP hD hS hl
  exact g_vretN hx hb hr hlocks hP hK hD hS dX5_ends_47 hF
set_option maxHeartbeats 4000000 in
set_option maxRecDepth 100000 in
theorem tyc_M_hangUp (l : Launch) (D : va_G) (ad : Nat → Nat) (cA : Nat → ClassId) (sz : Nat) (σ : tyS) (p1 : Int32) (r : Int32) (τ : tyS) (hF : tyf_M_hangUp σ p1 = some (r, τ)) : gMi l yX5_hangUp wsX5_hangUp ({ frames := 2, cells := 0, slots := 0, locals := 43 } : Room) D (wM ad cA) (tM cA) [.ref (ad 0), .int p1] sz σ r τ := by
  refine Met.ofW (cc := cX5_hangUp) (maxL := 3) (ret := (some .int)) (by decide) rfl ?_
  intro p e s m args below meth c s₁ B hml hv
  obtain ⟨rfl, hsz, hP, hK, hD0, hNN⟩ := hv
  have hx := B.exec
  have hb := B.bytes
  have hr := B.returns
  have hts := atoms_spec (ws := wsX5_hangUp) B.pre
  have hown : s.vm.findClass RX5 = some m.cls := findClass_of_methodNamed B.named
  have hlocks := B.notSynchronized
  subst hsz
  have hD := hD0.self (sz := s.heap.size)
  generalize hAe : va_A (wM ad cA σ) s.heap.size = A at hD ⊢
  have hA : ∀ q : Nat, s.heap.size ≤ q → A q := fun q h => by rw [← hAe]; exact Or.inr h
  clear hAe hD0
  have hS : va_S A s.heap s.heap [] := va_S.rf
  have hl := lv_entry ([.ref (ad 0), .int p1]) (n := 3) (Nat.le_of_ble_eq_true rfl)
  rw [lg_entry_eq]
  generalize (lg_sl ([.ref (ad 0), .int p1]) ++ List.replicate (3 - (lg_sl ([.ref (ad 0), .int p1])).length) Slot.unset).toArray = ls at hl ⊢
  have hl : lv_has ls 3 [(0, .ref (ad 0)), (1, .int p1)] := hl
  have hS9 : CallFix p m c cX5_hangUp 3 s _ wsX5_hangUp RX5 := ⟨hx, hb, hml, hown, hts⟩
  have hw0 := hts (.fieldLink RX5 40 "TrunkYardsModel" "goesOn" "[Z") (List.mem_cons_of_mem _ (List.mem_of_getElem? (i := 0) rfl))
  have hiX5 : ∀ w ∈ wsX50, w ∈ wsX5_hangUp := fun w h => List.mem_cons_of_mem _ (List.mem_append_right _ h)
  have hw2 := hts (.fieldLink RX5 80 "TrunkYardsModel" "thrown" "I") (List.mem_cons_of_mem _ (List.mem_of_getElem? (i := 1) rfl))
  have hw3 := hts (.fieldLink RX5 44 "TrunkYardsModel" "open" "[I") (List.mem_cons_of_mem _ (List.mem_of_getElem? (i := 2) rfl))
  have hw4 := hts (.fieldLink RX5 47 "TrunkYardsModel" "state" "[I") (List.mem_cons_of_mem _ (List.mem_of_getElem? (i := 3) rfl))
  have hw5 := hts (.fieldLink RX5 62 "TrunkYardsModel" "many" "[I") (List.mem_cons_of_mem _ (List.mem_of_getElem? (i := 4) rfl))
  unfold tyf_M_hangUp at hF
  refine lv_aload_n hx hb dX5_hangUp_0 rfl (lv_at hl 0 rfl) ?_
  refine lv_aload_n hx hb dX5_hangUp_1 rfl (lv_at hl 0 rfl) ?_
  refine lv_iload_n hx hb dX5_hangUp_2 rfl (lv_at hl 1 rfl) ?_
  obtain ⟨r1, er1, hF⟩ := bR_some hF
  refine gc_Vi (As := [.int p1]) hS9 (tyc_M_isCall l D ad cA _ σ p1 r1 er1) (cwV 1 hts gX5_hangUp_X5_isCall rfl rfl rfl hd_X5_isCall ⟨by decide, by decide⟩) hK hP hD hS hA hNN (ci := 5) (q0 := 0) (N := 30) rfl (wM_0 ad cA σ) rfl hl.1 rfl (Nat.le_of_ble_eq_true rfl) dX5_hangUp_3 (fun H locs hP hD hS => ?_)
  refine lv_if_ne (tgt := 13) hx hb dX5_hangUp_6 (by decide) (fun c_2 => ?_) (fun c_2 => ?_)
  · have hF := iteF hF c_2
    refine lv_aload_n hx hb dX5_hangUp_13 rfl (lv_at hl 0 rfl) ?_
    refine va_get (D := D) (ci := 5) (v := .ref (ad 11)) (C := RX5) (T := TX5) (N := 30) hx hb hts hiX5 hown hK hP 0 (wM_0 ad cA σ) rfl 15 (by decide) hw0 (fun _ h9 => h9) rfl dX5_hangUp_14 ?_
    refine lv_iload_n hx hb dX5_hangUp_17 rfl (lv_at hl 1 rfl) ?_
    obtain ⟨hb_3, hF⟩ := chk_some hF
    refine va_zald hx hb hK hP 11 10 (wM_11 ad cA σ) (tM_11 cA) hb_3 dX5_hangUp_18 ?_
    refine lv_if_eq (tgt := 26) hx hb dX5_hangUp_19 (by decide) (fun c_4 => ?_) (fun c_4 => ?_)
    · have hF := iteT hF c_4
      refine lv_iconst (v := 2) hx hb dX5_hangUp_26 (by decide) ?_
      obtain ⟨σ5, e5, hF⟩ := stp_some hF
      refine gw_put hx hb hts hiX5 tyX5 tyX5_ok nmX5 hown hK hP hD hS 0 (wM_0 ad cA σ) rfl 0 (by decide) hw2 (fun _ h9 => h9) rfl (by decide +kernel) (show 0 < 30 from by decide) (wMv_0 ad cA σ _) dX5_hangUp_27 e5 (fun H locs hP hD hS => ?_)
      refine lv_aload_n hx hb dX5_hangUp_30 rfl (lv_at hl 0 rfl) ?_
      refine va_get (D := D) (ci := 5) (v := .int (σ5.2 0)) (C := RX5) (T := TX5) (N := 30) hx hb hts hiX5 hown hK hP 0 (wM_0 ad cA σ5) rfl 0 (by decide) hw2 (fun _ h9 => h9) rfl dX5_hangUp_31 ?_
      refine lv_as (y := 2) (by rw [e5]; rfl) ?_
      refine lv_if_le (tgt := 39) hx hb dX5_hangUp_34 (by decide) (fun h9 => absurd h9 (by decide)) (fun _ => ?_)
      refine lv_iconst (v := 0) hx hb dX5_hangUp_37 (by decide) ?_
      exact g_iretN hx hb hr rfl hlocks hP hK hD hS dX5_hangUp_38 hF
    · have hF := iteF hF c_4
      refine lv_iconst (v := 0) hx hb dX5_hangUp_22 (by decide) ?_
      refine lv_goto (tgt := 27) hx hb dX5_hangUp_23 (by decide) ?_
      obtain ⟨σ6, e6, hF⟩ := stp_some hF
      refine gw_put hx hb hts hiX5 tyX5 tyX5_ok nmX5 hown hK hP hD hS 0 (wM_0 ad cA σ) rfl 0 (by decide) hw2 (fun _ h9 => h9) rfl (by decide +kernel) (show 0 < 30 from by decide) (wMv_0 ad cA σ _) dX5_hangUp_27 e6 (fun H locs hP hD hS => ?_)
      refine lv_aload_n hx hb dX5_hangUp_30 rfl (lv_at hl 0 rfl) ?_
      refine va_get (D := D) (ci := 5) (v := .int (σ6.2 0)) (C := RX5) (T := TX5) (N := 30) hx hb hts hiX5 hown hK hP 0 (wM_0 ad cA σ6) rfl 0 (by decide) hw2 (fun _ h9 => h9) rfl dX5_hangUp_31 ?_
      refine lv_as (y := 0) (by rw [e6]; rfl) ?_
      refine lv_if_le (tgt := 39) hx hb dX5_hangUp_34 (by decide) (fun _ => ?_) (fun h9 => absurd h9 (by decide))
      refine lv_aload_n hx hb dX5_hangUp_39 rfl (lv_at hl 0 rfl) ?_
      refine lv_iload_n hx hb dX5_hangUp_40 rfl (lv_at hl 1 rfl) ?_
      obtain ⟨σ7, e7, hF⟩ := bR_some hF
      refine gc_Vv (As := [.int p1]) hS9 (tyc_M_ends l D ad cA _ σ6 p1 σ7 e7) (cwV 1 hts gX5_hangUp_X5_ends rfl rfl rfl hd_X5_ends ⟨by decide, by decide⟩) hK hP hD hS hA hNN (ci := 5) (q0 := 0) (N := 30) rfl (wM_0 ad cA σ6) rfl hl.1 rfl (Nat.le_of_ble_eq_true rfl) dX5_hangUp_41 (fun H locs hP hD hS => ?_)
      refine lv_aload_n hx hb dX5_hangUp_44 rfl (lv_at hl 0 rfl) ?_
      refine va_get (D := D) (ci := 5) (v := .ref (ad 12)) (C := RX5) (T := TX5) (N := 30) hx hb hts hiX5 hown hK hP 0 (wM_0 ad cA σ7) rfl 16 (by decide) hw3 (fun _ h9 => h9) rfl dX5_hangUp_45 ?_
      refine lv_iload_n hx hb dX5_hangUp_48 rfl (lv_at hl 1 rfl) ?_
      obtain ⟨hb_8, hF⟩ := chk_some hF
      refine va_iald hx hb hK hP 12 11 (wM_12 ad cA σ7) (tM_12 cA) hb_8 dX5_hangUp_49 ?_
      refine lv_istore_n (lv' := [(2, .int (σ7.1 12 (p1).toNatClampNeg)), (0, .ref (ad 0)), (1, .int p1)]) hx hb dX5_hangUp_50 rfl hl (by decide) rfl (fun ls hl => ?_)
      refine lv_iload_n hx hb dX5_hangUp_51 rfl (lv_at hl 0 rfl) ?_
      refine lv_iconst (v := (-1)) hx hb dX5_hangUp_52 (by decide) ?_
      refine lv_icmp_ne (tgt := 58) hx hb dX5_hangUp_53 (by decide) (fun c_9 => ?_) (fun c_9 => ?_)
      · have hF := iteF hF c_9
        refine lv_aload_n hx hb dX5_hangUp_58 rfl (lv_at hl 1 rfl) ?_
        refine va_get (D := D) (ci := 5) (v := .ref (ad 13)) (C := RX5) (T := TX5) (N := 30) hx hb hts hiX5 hown hK hP 0 (wM_0 ad cA σ7) rfl 18 (by decide) hw4 (fun _ h9 => h9) rfl dX5_hangUp_59 ?_
        refine lv_iload_n hx hb dX5_hangUp_62 rfl (lv_at hl 0 rfl) ?_
        refine lv_iconst (v := 5) hx hb dX5_hangUp_63 (by decide) ?_
        obtain ⟨hb_10, hF⟩ := chk_some hF
        obtain ⟨σ11, e11, hF⟩ := stp_some hF
        refine gw_iast hx hb hK hP hD hS (wM_13 ad cA σ7) (tM_13 cA) (wMs_13 ad cA σ7) hb_10 dX5_hangUp_64 e11 (fun H locs hP hD hS => ?_)
        refine lv_aload_n hx hb dX5_hangUp_65 rfl (lv_at hl 1 rfl) ?_
        refine va_get (D := D) (ci := 5) (v := .ref (ad 18)) (C := RX5) (T := TX5) (N := 30) hx hb hts hiX5 hown hK hP 0 (wM_0 ad cA σ11) rfl 23 (by decide) hw5 (fun _ h9 => h9) rfl dX5_hangUp_66 ?_
        refine lv_iload_n hx hb dX5_hangUp_69 rfl (lv_at hl 0 rfl) ?_
        obtain ⟨hb_12, hF⟩ := chk_some hF
        refine va_iald hx hb hK hP 18 17 (wM_18 ad cA σ11) (tM_18 cA) hb_12 dX5_hangUp_70 ?_
        exact g_iretN hx hb hr rfl hlocks hP hK hD hS dX5_hangUp_71 hF
      · have hF := iteT hF c_9
        refine lv_iconst (v := 0) hx hb dX5_hangUp_56 (by decide) ?_
        exact g_iretN hx hb hr rfl hlocks hP hK hD hS dX5_hangUp_57 hF
  · have hF := iteT hF c_2
    refine lv_iconst (v := 1) hx hb dX5_hangUp_9 (by decide) ?_
    refine lv_goto (tgt := 27) hx hb dX5_hangUp_10 (by decide) ?_
    obtain ⟨σ13, e13, hF⟩ := stp_some hF
    refine gw_put hx hb hts hiX5 tyX5 tyX5_ok nmX5 hown hK hP hD hS 0 (wM_0 ad cA σ) rfl 0 (by decide) hw2 (fun _ h9 => h9) rfl (by decide +kernel) (show 0 < 30 from by decide) (wMv_0 ad cA σ _) dX5_hangUp_27 e13 (fun H locs hP hD hS => ?_)
    refine lv_aload_n hx hb dX5_hangUp_30 rfl (lv_at hl 0 rfl) ?_
    refine va_get (D := D) (ci := 5) (v := .int (σ13.2 0)) (C := RX5) (T := TX5) (N := 30) hx hb hts hiX5 hown hK hP 0 (wM_0 ad cA σ13) rfl 0 (by decide) hw2 (fun _ h9 => h9) rfl dX5_hangUp_31 ?_
    refine lv_as (y := 1) (by rw [e13]; rfl) ?_
    refine lv_if_le (tgt := 39) hx hb dX5_hangUp_34 (by decide) (fun h9 => absurd h9 (by decide)) (fun _ => ?_)
    refine lv_iconst (v := 0) hx hb dX5_hangUp_37 (by decide) ?_
    exact g_iretN hx hb hr rfl hlocks hP hK hD hS dX5_hangUp_38 hF
set_option maxHeartbeats 4000000 in
set_option maxRecDepth 100000 in
theorem tyc_M_callOf (l : Launch) (D : va_G) (ad : Nat → Nat) (cA : Nat → ClassId) (sz : Nat) (σ : tyS) (p1 : Int32) (r : Int32) (τ : tyS) (hF : tyf_M_callOf σ p1 = some (r, τ)) : gMi l yX5_callOf wsX5_callOf ({ frames := 1, cells := 0, slots := 0, locals := 23 } : Room) D (wM ad cA) (tM cA) [.ref (ad 0), .int p1] sz σ r τ := by
  refine Met.ofW (cc := cX5_callOf) (maxL := 2) (ret := (some .int)) (by decide) rfl ?_
  intro p e s m args below meth c s₁ B hml hv
  obtain ⟨rfl, hsz, hP, hK, hD0, hNN⟩ := hv
  have hx := B.exec
  have hb := B.bytes
  have hr := B.returns
  have hts := atoms_spec (ws := wsX5_callOf) B.pre
  have hown : s.vm.findClass RX5 = some m.cls := findClass_of_methodNamed B.named
  have hlocks := B.notSynchronized
  subst hsz
  have hD := hD0.self (sz := s.heap.size)
  generalize hAe : va_A (wM ad cA σ) s.heap.size = A at hD ⊢
  have hA : ∀ q : Nat, s.heap.size ≤ q → A q := fun q h => by rw [← hAe]; exact Or.inr h
  clear hAe hD0
  have hS : va_S A s.heap s.heap [] := va_S.rf
  have hl := lv_entry ([.ref (ad 0), .int p1]) (n := 2) (Nat.le_of_ble_eq_true rfl)
  rw [lg_entry_eq]
  generalize (lg_sl ([.ref (ad 0), .int p1]) ++ List.replicate (2 - (lg_sl ([.ref (ad 0), .int p1])).length) Slot.unset).toArray = ls at hl ⊢
  have hl : lv_has ls 2 [(0, .ref (ad 0)), (1, .int p1)] := hl
  have hS9 : CallFix p m c cX5_callOf 2 s _ wsX5_callOf RX5 := ⟨hx, hb, hml, hown, hts⟩
  have hw0 := hts (.fieldLink RX5 80 "TrunkYardsModel" "thrown" "I") (List.mem_cons_of_mem _ (List.mem_of_getElem? (i := 0) rfl))
  have hiX5 : ∀ w ∈ wsX50, w ∈ wsX5_callOf := fun w h => List.mem_cons_of_mem _ (List.mem_append_right _ h)
  unfold tyf_M_callOf at hF
  refine lv_aload_n hx hb dX5_callOf_0 rfl (lv_at hl 0 rfl) ?_
  refine lv_iload_n hx hb dX5_callOf_1 rfl (lv_at hl 1 rfl) ?_
  refine lv_iconst (v := 0) hx hb dX5_callOf_2 (by decide) ?_
  refine lv_iconst (v := 5) hx hb dX5_callOf_3 (by decide) ?_
  obtain ⟨r1, er1, hF⟩ := bR_some hF
  refine gc_Si (As := [.int p1, .int 0, .int 5]) hS9 (tyc_M_in l D ad cA _ σ p1 0 5 r1 er1) (va_cwS 3 hts gX5_callOf_X5_in rfl rfl rfl hd_X5_in ⟨by decide, by decide⟩) hK hP hD hS hA hNN rfl hl.1 rfl (Nat.le_of_ble_eq_true rfl) dX5_callOf_4 (fun H locs hP hD hS => ?_)
  refine lv_if_eq (tgt := 14) hx hb dX5_callOf_7 (by decide) (fun c_2 => ?_) (fun c_2 => ?_)
  · have hF := iteT hF c_2
    refine lv_iconst (v := 1) hx hb dX5_callOf_14 (by decide) ?_
    obtain ⟨σ3, e3, hF⟩ := stp_some hF
    refine gw_put hx hb hts hiX5 tyX5 tyX5_ok nmX5 hown hK hP hD hS 0 (wM_0 ad cA σ) rfl 0 (by decide) hw0 (fun _ h9 => h9) rfl (by decide +kernel) (show 0 < 30 from by decide) (wMv_0 ad cA σ _) dX5_callOf_15 e3 (fun H locs hP hD hS => ?_)
    refine lv_aload_n hx hb dX5_callOf_18 rfl (lv_at hl 0 rfl) ?_
    refine va_get (D := D) (ci := 5) (v := .int (σ3.2 0)) (C := RX5) (T := TX5) (N := 30) hx hb hts hiX5 hown hK hP 0 (wM_0 ad cA σ3) rfl 0 (by decide) hw0 (fun _ h9 => h9) rfl dX5_callOf_19 ?_
    refine lv_as (y := 1) (by rw [e3]; rfl) ?_
    refine lv_if_le (tgt := 29) hx hb dX5_callOf_22 (by decide) (fun h9 => absurd h9 (by decide)) (fun _ => ?_)
    refine lv_iconst (v := 0) hx hb dX5_callOf_25 (by decide) ?_
    refine lv_goto (tgt := 34) hx hb dX5_callOf_26 (by decide) ?_
    exact g_iretN hx hb hr rfl hlocks hP hK hD hS dX5_callOf_34 hF
  · have hF := iteF hF c_2
    refine lv_iconst (v := 0) hx hb dX5_callOf_10 (by decide) ?_
    refine lv_goto (tgt := 15) hx hb dX5_callOf_11 (by decide) ?_
    obtain ⟨σ4, e4, hF⟩ := stp_some hF
    refine gw_put hx hb hts hiX5 tyX5 tyX5_ok nmX5 hown hK hP hD hS 0 (wM_0 ad cA σ) rfl 0 (by decide) hw0 (fun _ h9 => h9) rfl (by decide +kernel) (show 0 < 30 from by decide) (wMv_0 ad cA σ _) dX5_callOf_15 e4 (fun H locs hP hD hS => ?_)
    refine lv_aload_n hx hb dX5_callOf_18 rfl (lv_at hl 0 rfl) ?_
    refine va_get (D := D) (ci := 5) (v := .int (σ4.2 0)) (C := RX5) (T := TX5) (N := 30) hx hb hts hiX5 hown hK hP 0 (wM_0 ad cA σ4) rfl 0 (by decide) hw0 (fun _ h9 => h9) rfl dX5_callOf_19 ?_
    refine lv_as (y := 0) (by rw [e4]; rfl) ?_
    refine lv_if_le (tgt := 29) hx hb dX5_callOf_22 (by decide) (fun _ => ?_) (fun h9 => absurd h9 (by decide))
    refine lv_aload_n hx hb dX5_callOf_29 rfl (lv_at hl 0 rfl) ?_
    refine lv_iload_n hx hb dX5_callOf_30 rfl (lv_at hl 1 rfl) ?_
    obtain ⟨r5, er5, hF⟩ := bR_some hF
    refine gc_Vi (As := [.int p1]) hS9 (tyc_M_callNow l D ad cA _ σ4 p1 r5 er5) (cwV 1 hts gX5_callOf_X5_callNow rfl rfl rfl hd_X5_callNow ⟨by decide, by decide⟩) hK hP hD hS hA hNN (ci := 5) (q0 := 0) (N := 30) rfl (wM_0 ad cA σ4) rfl hl.1 rfl (Nat.le_of_ble_eq_true rfl) dX5_callOf_31 (fun H locs hP hD hS => ?_)
    exact g_iretN hx hb hr rfl hlocks hP hK hD hS dX5_callOf_34 hF
set_option maxHeartbeats 4000000 in
set_option maxRecDepth 100000 in
theorem tyc_M_way (l : Launch) (D : va_G) (ad : Nat → Nat) (cA : Nat → ClassId) (sz : Nat) (σ : tyS) (p1 : Int32) (r : Int32) (τ : tyS) (hF : tyf_M_way σ p1 = some (r, τ)) : gMi l yX5_way wsX5_way ({ frames := 2, cells := 0, slots := 0, locals := 43 } : Room) D (wM ad cA) (tM cA) [.ref (ad 0), .int p1] sz σ r τ := by
  refine Met.ofW (cc := cX5_way) (maxL := 4) (ret := (some .int)) (by decide) rfl ?_
  intro p e s m args below meth c s₁ B hml hv
  obtain ⟨rfl, hsz, hP, hK, hD0, hNN⟩ := hv
  have hx := B.exec
  have hb := B.bytes
  have hr := B.returns
  have hts := atoms_spec (ws := wsX5_way) B.pre
  have hown : s.vm.findClass RX5 = some m.cls := findClass_of_methodNamed B.named
  have hlocks := B.notSynchronized
  subst hsz
  have hD := hD0.self (sz := s.heap.size)
  generalize hAe : va_A (wM ad cA σ) s.heap.size = A at hD ⊢
  have hA : ∀ q : Nat, s.heap.size ≤ q → A q := fun q h => by rw [← hAe]; exact Or.inr h
  clear hAe hD0
  have hS : va_S A s.heap s.heap [] := va_S.rf
  have hl := lv_entry ([.ref (ad 0), .int p1]) (n := 4) (Nat.le_of_ble_eq_true rfl)
  rw [lg_entry_eq]
  generalize (lg_sl ([.ref (ad 0), .int p1]) ++ List.replicate (4 - (lg_sl ([.ref (ad 0), .int p1])).length) Slot.unset).toArray = ls at hl ⊢
  have hl : lv_has ls 4 [(0, .ref (ad 0)), (1, .int p1)] := hl
  have hS9 : CallFix p m c cX5_way 4 s _ wsX5_way RX5 := ⟨hx, hb, hml, hown, hts⟩
  have hw0 := hts (.fieldLink RX5 40 "TrunkYardsModel" "goesOn" "[Z") (List.mem_cons_of_mem _ (List.mem_of_getElem? (i := 0) rfl))
  have hiX5 : ∀ w ∈ wsX50, w ∈ wsX5_way := fun w h => List.mem_cons_of_mem _ (List.mem_append_right _ h)
  have hw2 := hts (.fieldLink RX5 80 "TrunkYardsModel" "thrown" "I") (List.mem_cons_of_mem _ (List.mem_of_getElem? (i := 1) rfl))
  have hw3 := hts (.fieldLink RX5 28 "TrunkYardsModel" "trunk" "[I") (List.mem_cons_of_mem _ (List.mem_of_getElem? (i := 2) rfl))
  unfold tyf_M_way at hF
  refine lv_aload_n hx hb dX5_way_0 rfl (lv_at hl 0 rfl) ?_
  refine lv_aload_n hx hb dX5_way_1 rfl (lv_at hl 0 rfl) ?_
  refine lv_iload_n hx hb dX5_way_2 rfl (lv_at hl 1 rfl) ?_
  obtain ⟨r1, er1, hF⟩ := bR_some hF
  refine gc_Vi (As := [.int p1]) hS9 (tyc_M_isCall l D ad cA _ σ p1 r1 er1) (cwV 1 hts gX5_way_X5_isCall rfl rfl rfl hd_X5_isCall ⟨by decide, by decide⟩) hK hP hD hS hA hNN (ci := 5) (q0 := 0) (N := 30) rfl (wM_0 ad cA σ) rfl hl.1 rfl (Nat.le_of_ble_eq_true rfl) dX5_way_3 (fun H locs hP hD hS => ?_)
  refine lv_if_ne (tgt := 13) hx hb dX5_way_6 (by decide) (fun c_2 => ?_) (fun c_2 => ?_)
  · have hF := iteF hF c_2
    refine lv_aload_n hx hb dX5_way_13 rfl (lv_at hl 0 rfl) ?_
    refine va_get (D := D) (ci := 5) (v := .ref (ad 11)) (C := RX5) (T := TX5) (N := 30) hx hb hts hiX5 hown hK hP 0 (wM_0 ad cA σ) rfl 15 (by decide) hw0 (fun _ h9 => h9) rfl dX5_way_14 ?_
    refine lv_iload_n hx hb dX5_way_17 rfl (lv_at hl 1 rfl) ?_
    obtain ⟨hb_3, hF⟩ := chk_some hF
    refine va_zald hx hb hK hP 11 10 (wM_11 ad cA σ) (tM_11 cA) hb_3 dX5_way_18 ?_
    refine lv_if_eq (tgt := 26) hx hb dX5_way_19 (by decide) (fun c_4 => ?_) (fun c_4 => ?_)
    · have hF := iteT hF c_4
      refine lv_iconst (v := 2) hx hb dX5_way_26 (by decide) ?_
      obtain ⟨σ5, e5, hF⟩ := stp_some hF
      refine gw_put hx hb hts hiX5 tyX5 tyX5_ok nmX5 hown hK hP hD hS 0 (wM_0 ad cA σ) rfl 0 (by decide) hw2 (fun _ h9 => h9) rfl (by decide +kernel) (show 0 < 30 from by decide) (wMv_0 ad cA σ _) dX5_way_27 e5 (fun H locs hP hD hS => ?_)
      refine lv_iconst (v := 0) hx hb dX5_way_30 (by decide) ?_
      refine lv_istore_n (lv' := [(2, .int 0), (0, .ref (ad 0)), (1, .int p1)]) hx hb dX5_way_31 rfl hl (by decide) rfl (fun ls hl => ?_)
      refine lv_iconst (v := 0) hx hb dX5_way_32 (by decide) ?_
      refine lv_istore_n (lv' := [(3, .int 0), (2, .int 0), (0, .ref (ad 0)), (1, .int p1)]) hx hb dX5_way_33 rfl hl (by decide) rfl (fun ls hl => ?_)
      have lp34 : ∀ (k : tyS → Int32 → Int32 → Int32 → Option (Int32 × tyS)), (∀ (σ0 : tyS) (x1 : Int32) (x2 : Int32) (x3 : Int32) , k σ0 x1 x2 x3 = some (r, τ) → ∀ (H : Heap) (locs : List Loc) (ls : Array Slot), va_P D vwCl (wM ad cA σ0) H → va_D A (wM ad cA σ0) → va_S A s.heap H locs → lv_has ls 4 [(0, .ref (ad 0)), (1, .int x1), (2, .int x2), (3, .int x3)] → W p l e (headSpec wsX5_way ({ frames := 2, cells := 0, slots := 0, locals := 43 } : Room)).room s m #[.ref (ad 0), .int p1] below meth c H locs 0 0 (MQ below (gQi D (wM ad cA) (tM cA) A r τ) #[.ref (ad 0), .int p1] s 0 0 A) (F0 m 71 ls [])) → ∀ (n : Nat), ∀ (σ0 : tyS) (x1 : Int32) (x2 : Int32) (x3 : Int32) , tyl_M_way_34 k n σ0 x1 x2 x3 = some (r, τ) → ∀ (H : Heap) (locs : List Loc) (ls : Array Slot), va_P D vwCl (wM ad cA σ0) H → va_D A (wM ad cA σ0) → va_S A s.heap H locs → lv_has ls 4 [(0, .ref (ad 0)), (1, .int x1), (2, .int x2), (3, .int x3)] → W p l e (headSpec wsX5_way ({ frames := 2, cells := 0, slots := 0, locals := 43 } : Room)).room s m #[.ref (ad 0), .int p1] below meth c H locs 0 0 (MQ below (gQi D (wM ad cA) (tM cA) A r τ) #[.ref (ad 0), .int p1] s 0 0 A) (F0 m 34 ls []) := by
        intro k hk n
        induction n with
        | zero =>
          intro σ0 x1 x2 x3 hF
          exact absurd hF (fun h => nomatch h)
        | succ n ih =>
          intro σ0 x1 x2 x3 hF H locs ls hP hD hS hl
          have hF : tyb_M_way_34 k (tyl_M_way_34 k n) σ0 x1 x2 x3 = some (r, τ) := hF
          unfold tyb_M_way_34 at hF
          refine lv_iload_n hx hb dX5_way_34 rfl (lv_at hl 3 rfl) ?_
          refine lv_bipush (v := 6) hx hb dX5_way_35 (by decide) ?_
          refine lv_icmp_ge (tgt := 71) hx hb dX5_way_37 (by decide) (fun c_6 => ?_) (fun c_6 => ?_)
          · have hF := iteT hF c_6
            exact hk σ0 x1 x2 x3 hF _ _ _ hP hD hS (lv_sub hl [0, 1, 2, 3] rfl)
          · have hF := iteF hF c_6
            refine lv_aload_n hx hb dX5_way_40 rfl (lv_at hl 0 rfl) ?_
            refine va_get (D := D) (ci := 5) (v := .int (σ0.2 0)) (C := RX5) (T := TX5) (N := 30) hx hb hts hiX5 hown hK hP 0 (wM_0 ad cA σ0) rfl 0 (by decide) hw2 (fun _ h9 => h9) rfl dX5_way_41 ?_
            refine lv_if_ne (tgt := 71) hx hb dX5_way_44 (by decide) (fun c_7 => ?_) (fun c_7 => ?_)
            · have hF := iteF hF c_7
              exact hk σ0 x1 x2 x3 hF _ _ _ hP hD hS (lv_sub hl [0, 1, 2, 3] rfl)
            · have hF := iteT hF c_7
              refine lv_iload_n hx hb dX5_way_47 rfl (lv_at hl 2 rfl) ?_
              refine lv_aload_n hx hb dX5_way_48 rfl (lv_at hl 0 rfl) ?_
              refine va_get (D := D) (ci := 5) (v := .ref (ad 7)) (C := RX5) (T := TX5) (N := 30) hx hb hts hiX5 hown hK hP 0 (wM_0 ad cA σ0) rfl 9 (by decide) hw3 (fun _ h9 => h9) rfl dX5_way_49 ?_
              refine lv_iload_n hx hb dX5_way_52 rfl (lv_at hl 3 rfl) ?_
              obtain ⟨hb_8, hF⟩ := chk_some hF
              refine va_iald hx hb hK hP 7 6 (wM_7 ad cA σ0) (tM_7 cA) hb_8 dX5_way_53 ?_
              refine lv_iload_n hx hb dX5_way_54 rfl (lv_at hl 1 rfl) ?_
              refine lv_icmp_ne (tgt := 62) hx hb dX5_way_55 (by decide) (fun c_9 => ?_) (fun c_9 => ?_)
              · have hF := iteF hF c_9
                refine lv_iconst (v := 0) hx hb dX5_way_62 (by decide) ?_
                refine lv_iadd hx hb dX5_way_63 ?_
                refine lv_istore_n (lv' := [(2, .int (x2 + 0)), (0, .ref (ad 0)), (1, .int x1), (3, .int x3)]) hx hb dX5_way_64 rfl hl (by decide) rfl (fun ls hl => ?_)
                refine lv_iinc (v := (x3 + 1)) (lv' := [(3, .int (x3 + 1)), (2, .int (x2 + 0)), (0, .ref (ad 0)), (1, .int x1)]) hx hb dX5_way_65 hl (k := 3) rfl rfl (by decide) rfl (fun ls hl => ?_)
                refine lv_goto (tgt := 34) hx hb dX5_way_68 (by decide) ?_
                exact ih σ0 x1 (x2 + 0) (x3 + 1) hF _ _ _ hP hD hS (lv_sub hl [2, 3, 1, 0] rfl)
              · have hF := iteT hF c_9
                refine lv_iconst (v := 1) hx hb dX5_way_58 (by decide) ?_
                refine lv_goto (tgt := 63) hx hb dX5_way_59 (by decide) ?_
                refine lv_iadd hx hb dX5_way_63 ?_
                refine lv_istore_n (lv' := [(2, .int (x2 + 1)), (0, .ref (ad 0)), (1, .int x1), (3, .int x3)]) hx hb dX5_way_64 rfl hl (by decide) rfl (fun ls hl => ?_)
                refine lv_iinc (v := (x3 + 1)) (lv' := [(3, .int (x3 + 1)), (2, .int (x2 + 1)), (0, .ref (ad 0)), (1, .int x1)]) hx hb dX5_way_65 hl (k := 3) rfl rfl (by decide) rfl (fun ls hl => ?_)
                refine lv_goto (tgt := 34) hx hb dX5_way_68 (by decide) ?_
                exact ih σ0 x1 (x2 + 1) (x3 + 1) hF _ _ _ hP hD hS (lv_sub hl [2, 3, 1, 0] rfl)
      refine lp34 _ ?_ 64 σ5 p1 0 0 hF _ _ _ hP hD hS (lv_sub hl [2, 3, 1, 0] rfl)
      intro σ0 x1 x2 x3 hF H locs ls hP hD hS hl
      refine lv_iload_n hx hb dX5_way_71 rfl (lv_at hl 2 rfl) ?_
      exact g_iretN hx hb hr rfl hlocks hP hK hD hS dX5_way_72 hF
    · have hF := iteF hF c_4
      refine lv_iconst (v := 0) hx hb dX5_way_22 (by decide) ?_
      refine lv_goto (tgt := 27) hx hb dX5_way_23 (by decide) ?_
      obtain ⟨σ10, e10, hF⟩ := stp_some hF
      refine gw_put hx hb hts hiX5 tyX5 tyX5_ok nmX5 hown hK hP hD hS 0 (wM_0 ad cA σ) rfl 0 (by decide) hw2 (fun _ h9 => h9) rfl (by decide +kernel) (show 0 < 30 from by decide) (wMv_0 ad cA σ _) dX5_way_27 e10 (fun H locs hP hD hS => ?_)
      refine lv_iconst (v := 0) hx hb dX5_way_30 (by decide) ?_
      refine lv_istore_n (lv' := [(2, .int 0), (0, .ref (ad 0)), (1, .int p1)]) hx hb dX5_way_31 rfl hl (by decide) rfl (fun ls hl => ?_)
      refine lv_iconst (v := 0) hx hb dX5_way_32 (by decide) ?_
      refine lv_istore_n (lv' := [(3, .int 0), (2, .int 0), (0, .ref (ad 0)), (1, .int p1)]) hx hb dX5_way_33 rfl hl (by decide) rfl (fun ls hl => ?_)
      have lp34 : ∀ (k : tyS → Int32 → Int32 → Int32 → Option (Int32 × tyS)), (∀ (σ0 : tyS) (x1 : Int32) (x2 : Int32) (x3 : Int32) , k σ0 x1 x2 x3 = some (r, τ) → ∀ (H : Heap) (locs : List Loc) (ls : Array Slot), va_P D vwCl (wM ad cA σ0) H → va_D A (wM ad cA σ0) → va_S A s.heap H locs → lv_has ls 4 [(0, .ref (ad 0)), (1, .int x1), (2, .int x2), (3, .int x3)] → W p l e (headSpec wsX5_way ({ frames := 2, cells := 0, slots := 0, locals := 43 } : Room)).room s m #[.ref (ad 0), .int p1] below meth c H locs 0 0 (MQ below (gQi D (wM ad cA) (tM cA) A r τ) #[.ref (ad 0), .int p1] s 0 0 A) (F0 m 71 ls [])) → ∀ (n : Nat), ∀ (σ0 : tyS) (x1 : Int32) (x2 : Int32) (x3 : Int32) , tyl_M_way_34 k n σ0 x1 x2 x3 = some (r, τ) → ∀ (H : Heap) (locs : List Loc) (ls : Array Slot), va_P D vwCl (wM ad cA σ0) H → va_D A (wM ad cA σ0) → va_S A s.heap H locs → lv_has ls 4 [(0, .ref (ad 0)), (1, .int x1), (2, .int x2), (3, .int x3)] → W p l e (headSpec wsX5_way ({ frames := 2, cells := 0, slots := 0, locals := 43 } : Room)).room s m #[.ref (ad 0), .int p1] below meth c H locs 0 0 (MQ below (gQi D (wM ad cA) (tM cA) A r τ) #[.ref (ad 0), .int p1] s 0 0 A) (F0 m 34 ls []) := by
        intro k hk n
        induction n with
        | zero =>
          intro σ0 x1 x2 x3 hF
          exact absurd hF (fun h => nomatch h)
        | succ n ih =>
          intro σ0 x1 x2 x3 hF H locs ls hP hD hS hl
          have hF : tyb_M_way_34 k (tyl_M_way_34 k n) σ0 x1 x2 x3 = some (r, τ) := hF
          unfold tyb_M_way_34 at hF
          refine lv_iload_n hx hb dX5_way_34 rfl (lv_at hl 3 rfl) ?_
          refine lv_bipush (v := 6) hx hb dX5_way_35 (by decide) ?_
          refine lv_icmp_ge (tgt := 71) hx hb dX5_way_37 (by decide) (fun c_11 => ?_) (fun c_11 => ?_)
          · have hF := iteT hF c_11
            exact hk σ0 x1 x2 x3 hF _ _ _ hP hD hS (lv_sub hl [0, 1, 2, 3] rfl)
          · have hF := iteF hF c_11
            refine lv_aload_n hx hb dX5_way_40 rfl (lv_at hl 0 rfl) ?_
            refine va_get (D := D) (ci := 5) (v := .int (σ0.2 0)) (C := RX5) (T := TX5) (N := 30) hx hb hts hiX5 hown hK hP 0 (wM_0 ad cA σ0) rfl 0 (by decide) hw2 (fun _ h9 => h9) rfl dX5_way_41 ?_
            refine lv_if_ne (tgt := 71) hx hb dX5_way_44 (by decide) (fun c_12 => ?_) (fun c_12 => ?_)
            · have hF := iteF hF c_12
              exact hk σ0 x1 x2 x3 hF _ _ _ hP hD hS (lv_sub hl [0, 1, 2, 3] rfl)
            · have hF := iteT hF c_12
              refine lv_iload_n hx hb dX5_way_47 rfl (lv_at hl 2 rfl) ?_
              refine lv_aload_n hx hb dX5_way_48 rfl (lv_at hl 0 rfl) ?_
              refine va_get (D := D) (ci := 5) (v := .ref (ad 7)) (C := RX5) (T := TX5) (N := 30) hx hb hts hiX5 hown hK hP 0 (wM_0 ad cA σ0) rfl 9 (by decide) hw3 (fun _ h9 => h9) rfl dX5_way_49 ?_
              refine lv_iload_n hx hb dX5_way_52 rfl (lv_at hl 3 rfl) ?_
              obtain ⟨hb_13, hF⟩ := chk_some hF
              refine va_iald hx hb hK hP 7 6 (wM_7 ad cA σ0) (tM_7 cA) hb_13 dX5_way_53 ?_
              refine lv_iload_n hx hb dX5_way_54 rfl (lv_at hl 1 rfl) ?_
              refine lv_icmp_ne (tgt := 62) hx hb dX5_way_55 (by decide) (fun c_14 => ?_) (fun c_14 => ?_)
              · have hF := iteF hF c_14
                refine lv_iconst (v := 0) hx hb dX5_way_62 (by decide) ?_
                refine lv_iadd hx hb dX5_way_63 ?_
                refine lv_istore_n (lv' := [(2, .int (x2 + 0)), (0, .ref (ad 0)), (1, .int x1), (3, .int x3)]) hx hb dX5_way_64 rfl hl (by decide) rfl (fun ls hl => ?_)
                refine lv_iinc (v := (x3 + 1)) (lv' := [(3, .int (x3 + 1)), (2, .int (x2 + 0)), (0, .ref (ad 0)), (1, .int x1)]) hx hb dX5_way_65 hl (k := 3) rfl rfl (by decide) rfl (fun ls hl => ?_)
                refine lv_goto (tgt := 34) hx hb dX5_way_68 (by decide) ?_
                exact ih σ0 x1 (x2 + 0) (x3 + 1) hF _ _ _ hP hD hS (lv_sub hl [2, 3, 1, 0] rfl)
              · have hF := iteT hF c_14
                refine lv_iconst (v := 1) hx hb dX5_way_58 (by decide) ?_
                refine lv_goto (tgt := 63) hx hb dX5_way_59 (by decide) ?_
                refine lv_iadd hx hb dX5_way_63 ?_
                refine lv_istore_n (lv' := [(2, .int (x2 + 1)), (0, .ref (ad 0)), (1, .int x1), (3, .int x3)]) hx hb dX5_way_64 rfl hl (by decide) rfl (fun ls hl => ?_)
                refine lv_iinc (v := (x3 + 1)) (lv' := [(3, .int (x3 + 1)), (2, .int (x2 + 1)), (0, .ref (ad 0)), (1, .int x1)]) hx hb dX5_way_65 hl (k := 3) rfl rfl (by decide) rfl (fun ls hl => ?_)
                refine lv_goto (tgt := 34) hx hb dX5_way_68 (by decide) ?_
                exact ih σ0 x1 (x2 + 1) (x3 + 1) hF _ _ _ hP hD hS (lv_sub hl [2, 3, 1, 0] rfl)
      refine lp34 _ ?_ 64 σ10 p1 0 0 hF _ _ _ hP hD hS (lv_sub hl [2, 3, 1, 0] rfl)
      intro σ0 x1 x2 x3 hF H locs ls hP hD hS hl
      refine lv_iload_n hx hb dX5_way_71 rfl (lv_at hl 2 rfl) ?_
      exact g_iretN hx hb hr rfl hlocks hP hK hD hS dX5_way_72 hF
  · have hF := iteT hF c_2
    refine lv_iconst (v := 1) hx hb dX5_way_9 (by decide) ?_
    refine lv_goto (tgt := 27) hx hb dX5_way_10 (by decide) ?_
    obtain ⟨σ15, e15, hF⟩ := stp_some hF
    refine gw_put hx hb hts hiX5 tyX5 tyX5_ok nmX5 hown hK hP hD hS 0 (wM_0 ad cA σ) rfl 0 (by decide) hw2 (fun _ h9 => h9) rfl (by decide +kernel) (show 0 < 30 from by decide) (wMv_0 ad cA σ _) dX5_way_27 e15 (fun H locs hP hD hS => ?_)
    refine lv_iconst (v := 0) hx hb dX5_way_30 (by decide) ?_
    refine lv_istore_n (lv' := [(2, .int 0), (0, .ref (ad 0)), (1, .int p1)]) hx hb dX5_way_31 rfl hl (by decide) rfl (fun ls hl => ?_)
    refine lv_iconst (v := 0) hx hb dX5_way_32 (by decide) ?_
    refine lv_istore_n (lv' := [(3, .int 0), (2, .int 0), (0, .ref (ad 0)), (1, .int p1)]) hx hb dX5_way_33 rfl hl (by decide) rfl (fun ls hl => ?_)
    have lp34 : ∀ (k : tyS → Int32 → Int32 → Int32 → Option (Int32 × tyS)), (∀ (σ0 : tyS) (x1 : Int32) (x2 : Int32) (x3 : Int32) , k σ0 x1 x2 x3 = some (r, τ) → ∀ (H : Heap) (locs : List Loc) (ls : Array Slot), va_P D vwCl (wM ad cA σ0) H → va_D A (wM ad cA σ0) → va_S A s.heap H locs → lv_has ls 4 [(0, .ref (ad 0)), (1, .int x1), (2, .int x2), (3, .int x3)] → W p l e (headSpec wsX5_way ({ frames := 2, cells := 0, slots := 0, locals := 43 } : Room)).room s m #[.ref (ad 0), .int p1] below meth c H locs 0 0 (MQ below (gQi D (wM ad cA) (tM cA) A r τ) #[.ref (ad 0), .int p1] s 0 0 A) (F0 m 71 ls [])) → ∀ (n : Nat), ∀ (σ0 : tyS) (x1 : Int32) (x2 : Int32) (x3 : Int32) , tyl_M_way_34 k n σ0 x1 x2 x3 = some (r, τ) → ∀ (H : Heap) (locs : List Loc) (ls : Array Slot), va_P D vwCl (wM ad cA σ0) H → va_D A (wM ad cA σ0) → va_S A s.heap H locs → lv_has ls 4 [(0, .ref (ad 0)), (1, .int x1), (2, .int x2), (3, .int x3)] → W p l e (headSpec wsX5_way ({ frames := 2, cells := 0, slots := 0, locals := 43 } : Room)).room s m #[.ref (ad 0), .int p1] below meth c H locs 0 0 (MQ below (gQi D (wM ad cA) (tM cA) A r τ) #[.ref (ad 0), .int p1] s 0 0 A) (F0 m 34 ls []) := by
      intro k hk n
      induction n with
      | zero =>
        intro σ0 x1 x2 x3 hF
        exact absurd hF (fun h => nomatch h)
      | succ n ih =>
        intro σ0 x1 x2 x3 hF H locs ls hP hD hS hl
        have hF : tyb_M_way_34 k (tyl_M_way_34 k n) σ0 x1 x2 x3 = some (r, τ) := hF
        unfold tyb_M_way_34 at hF
        refine lv_iload_n hx hb dX5_way_34 rfl (lv_at hl 3 rfl) ?_
        refine lv_bipush (v := 6) hx hb dX5_way_35 (by decide) ?_
        refine lv_icmp_ge (tgt := 71) hx hb dX5_way_37 (by decide) (fun c_16 => ?_) (fun c_16 => ?_)
        · have hF := iteT hF c_16
          exact hk σ0 x1 x2 x3 hF _ _ _ hP hD hS (lv_sub hl [0, 1, 2, 3] rfl)
        · have hF := iteF hF c_16
          refine lv_aload_n hx hb dX5_way_40 rfl (lv_at hl 0 rfl) ?_
          refine va_get (D := D) (ci := 5) (v := .int (σ0.2 0)) (C := RX5) (T := TX5) (N := 30) hx hb hts hiX5 hown hK hP 0 (wM_0 ad cA σ0) rfl 0 (by decide) hw2 (fun _ h9 => h9) rfl dX5_way_41 ?_
          refine lv_if_ne (tgt := 71) hx hb dX5_way_44 (by decide) (fun c_17 => ?_) (fun c_17 => ?_)
          · have hF := iteF hF c_17
            exact hk σ0 x1 x2 x3 hF _ _ _ hP hD hS (lv_sub hl [0, 1, 2, 3] rfl)
          · have hF := iteT hF c_17
            refine lv_iload_n hx hb dX5_way_47 rfl (lv_at hl 2 rfl) ?_
            refine lv_aload_n hx hb dX5_way_48 rfl (lv_at hl 0 rfl) ?_
            refine va_get (D := D) (ci := 5) (v := .ref (ad 7)) (C := RX5) (T := TX5) (N := 30) hx hb hts hiX5 hown hK hP 0 (wM_0 ad cA σ0) rfl 9 (by decide) hw3 (fun _ h9 => h9) rfl dX5_way_49 ?_
            refine lv_iload_n hx hb dX5_way_52 rfl (lv_at hl 3 rfl) ?_
            obtain ⟨hb_18, hF⟩ := chk_some hF
            refine va_iald hx hb hK hP 7 6 (wM_7 ad cA σ0) (tM_7 cA) hb_18 dX5_way_53 ?_
            refine lv_iload_n hx hb dX5_way_54 rfl (lv_at hl 1 rfl) ?_
            refine lv_icmp_ne (tgt := 62) hx hb dX5_way_55 (by decide) (fun c_19 => ?_) (fun c_19 => ?_)
            · have hF := iteF hF c_19
              refine lv_iconst (v := 0) hx hb dX5_way_62 (by decide) ?_
              refine lv_iadd hx hb dX5_way_63 ?_
              refine lv_istore_n (lv' := [(2, .int (x2 + 0)), (0, .ref (ad 0)), (1, .int x1), (3, .int x3)]) hx hb dX5_way_64 rfl hl (by decide) rfl (fun ls hl => ?_)
              refine lv_iinc (v := (x3 + 1)) (lv' := [(3, .int (x3 + 1)), (2, .int (x2 + 0)), (0, .ref (ad 0)), (1, .int x1)]) hx hb dX5_way_65 hl (k := 3) rfl rfl (by decide) rfl (fun ls hl => ?_)
              refine lv_goto (tgt := 34) hx hb dX5_way_68 (by decide) ?_
              exact ih σ0 x1 (x2 + 0) (x3 + 1) hF _ _ _ hP hD hS (lv_sub hl [2, 3, 1, 0] rfl)
            · have hF := iteT hF c_19
              refine lv_iconst (v := 1) hx hb dX5_way_58 (by decide) ?_
              refine lv_goto (tgt := 63) hx hb dX5_way_59 (by decide) ?_
              refine lv_iadd hx hb dX5_way_63 ?_
              refine lv_istore_n (lv' := [(2, .int (x2 + 1)), (0, .ref (ad 0)), (1, .int x1), (3, .int x3)]) hx hb dX5_way_64 rfl hl (by decide) rfl (fun ls hl => ?_)
              refine lv_iinc (v := (x3 + 1)) (lv' := [(3, .int (x3 + 1)), (2, .int (x2 + 1)), (0, .ref (ad 0)), (1, .int x1)]) hx hb dX5_way_65 hl (k := 3) rfl rfl (by decide) rfl (fun ls hl => ?_)
              refine lv_goto (tgt := 34) hx hb dX5_way_68 (by decide) ?_
              exact ih σ0 x1 (x2 + 1) (x3 + 1) hF _ _ _ hP hD hS (lv_sub hl [2, 3, 1, 0] rfl)
    refine lp34 _ ?_ 64 σ15 p1 0 0 hF _ _ _ hP hD hS (lv_sub hl [2, 3, 1, 0] rfl)
    intro σ0 x1 x2 x3 hF H locs ls hP hD hS hl
    refine lv_iload_n hx hb dX5_way_71 rfl (lv_at hl 2 rfl) ?_
    exact g_iretN hx hb hr rfl hlocks hP hK hD hS dX5_way_72 hF
set_option maxHeartbeats 4000000 in
set_option maxRecDepth 100000 in
theorem tyc_M_busy (l : Launch) (D : va_G) (ad : Nat → Nat) (cA : Nat → ClassId) (sz : Nat) (σ : tyS) (r : Int32) (τ : tyS) (hF : tyf_M_busy σ  = some (r, τ)) : gMi l yX5_busy wsX5_busy ({ frames := 0, cells := 0, slots := 0, locals := 0 } : Room) D (wM ad cA) (tM cA) [.ref (ad 0)] sz σ r τ := by
  refine Met.ofW (cc := cX5_busy) (maxL := 1) (ret := (some .int)) (by decide) rfl ?_
  intro p e s m args below meth c s₁ B hml hv
  obtain ⟨rfl, hsz, hP, hK, hD0, hNN⟩ := hv
  have hx := B.exec
  have hb := B.bytes
  have hr := B.returns
  have hts := atoms_spec (ws := wsX5_busy) B.pre
  have hown : s.vm.findClass RX5 = some m.cls := findClass_of_methodNamed B.named
  have hlocks := B.notSynchronized
  subst hsz
  have hD := hD0.self (sz := s.heap.size)
  generalize hAe : va_A (wM ad cA σ) s.heap.size = A at hD ⊢
  have hA : ∀ q : Nat, s.heap.size ≤ q → A q := fun q h => by rw [← hAe]; exact Or.inr h
  clear hAe hD0
  have hS : va_S A s.heap s.heap [] := va_S.rf
  have hl := lv_entry ([.ref (ad 0)]) (n := 1) (Nat.le_of_ble_eq_true rfl)
  rw [lg_entry_eq]
  generalize (lg_sl ([.ref (ad 0)]) ++ List.replicate (1 - (lg_sl ([.ref (ad 0)])).length) Slot.unset).toArray = ls at hl ⊢
  have hl : lv_has ls 1 [(0, .ref (ad 0))] := hl
  have hw0 := hts (.fieldLink RX5 80 "TrunkYardsModel" "thrown" "I") (List.mem_cons_of_mem _ (List.mem_of_getElem? (i := 0) rfl))
  have hiX5 : ∀ w ∈ wsX50, w ∈ wsX5_busy := fun w h => List.mem_cons_of_mem _ (List.mem_append_right _ h)
  have hw2 := hts (.fieldLink RX5 142 "TrunkYardsModel" "busy" "I") (List.mem_cons_of_mem _ (List.mem_of_getElem? (i := 1) rfl))
  unfold tyf_M_busy at hF
  refine lv_aload_n hx hb dX5_busy_0 rfl (lv_at hl 0 rfl) ?_
  refine lv_iconst (v := 0) hx hb dX5_busy_1 (by decide) ?_
  obtain ⟨σ1, e1, hF⟩ := stp_some hF
  refine gw_put hx hb hts hiX5 tyX5 tyX5_ok nmX5 hown hK hP hD hS 0 (wM_0 ad cA σ) rfl 0 (by decide) hw0 (fun _ h9 => h9) rfl (by decide +kernel) (show 0 < 30 from by decide) (wMv_0 ad cA σ _) dX5_busy_2 e1 (fun H locs hP hD hS => ?_)
  refine lv_aload_n hx hb dX5_busy_5 rfl (lv_at hl 0 rfl) ?_
  refine va_get (D := D) (ci := 5) (v := .int (σ1.2 4)) (C := RX5) (T := TX5) (N := 30) hx hb hts hiX5 hown hK hP 0 (wM_0 ad cA σ1) rfl 12 (by decide) hw2 (fun _ h9 => h9) rfl dX5_busy_6 ?_
  exact g_iretN hx hb hr rfl hlocks hP hK hD hS dX5_busy_9 hF
set_option maxHeartbeats 4000000 in
set_option maxRecDepth 100000 in
theorem tyc_M_isTrunk (l : Launch) (D : va_G) (ad : Nat → Nat) (cA : Nat → ClassId) (sz : Nat) (σ : tyS) (p0 : Int32) (p1 : Int32) (p2 : Int32) (r : Int32) (hF : tyf_M_isTrunk σ p0 p1 p2 = some r) : gMi l yX5_isTrunk wsX5_isTrunk ({ frames := 2, cells := 0, slots := 0, locals := 42 } : Room) D (wM ad cA) (tM cA) [.int p0, .int p1, .int p2] sz σ r σ := by
  refine Met.ofW (cc := cX5_isTrunk) (maxL := 3) (ret := (some .boolean)) (by decide) rfl ?_
  intro p e s m args below meth c s₁ B hml hv
  obtain ⟨rfl, hsz, hP, hK, hD0, hNN⟩ := hv
  have hx := B.exec
  have hb := B.bytes
  have hr := B.returns
  have hts := atoms_spec (ws := wsX5_isTrunk) B.pre
  have hown : s.vm.findClass RX5 = some m.cls := findClass_of_methodNamed B.named
  have hlocks := B.notSynchronized
  subst hsz
  have hD := hD0.self (sz := s.heap.size)
  generalize hAe : va_A (wM ad cA σ) s.heap.size = A at hD ⊢
  have hA : ∀ q : Nat, s.heap.size ≤ q → A q := fun q h => by rw [← hAe]; exact Or.inr h
  clear hAe hD0
  have hS : va_S A s.heap s.heap [] := va_S.rf
  have hl := lv_entry ([.int p0, .int p1, .int p2]) (n := 3) (Nat.le_of_ble_eq_true rfl)
  rw [lg_entry_eq]
  generalize (lg_sl ([.int p0, .int p1, .int p2]) ++ List.replicate (3 - (lg_sl ([.int p0, .int p1, .int p2])).length) Slot.unset).toArray = ls at hl ⊢
  have hl : lv_has ls 3 [(0, .int p0), (1, .int p1), (2, .int p2)] := hl
  have hS9 : CallFix p m c cX5_isTrunk 3 s _ wsX5_isTrunk RX5 := ⟨hx, hb, hml, hown, hts⟩
  unfold tyf_M_isTrunk at hF
  refine lv_iload_n hx hb dX5_isTrunk_0 rfl (lv_at hl 0 rfl) ?_
  obtain ⟨r1, er1, hF⟩ := bR_some hF
  refine gc_Si (As := [.int p0]) hS9 (tyc_M_isYard l D ad cA _ σ p0 r1 er1) (va_cwS 1 hts gX5_isTrunk_X5_isYard rfl rfl rfl hd_X5_isYard ⟨by decide, by decide⟩) hK hP hD hS hA hNN rfl hl.1 rfl (Nat.le_of_ble_eq_true rfl) dX5_isTrunk_1 (fun H locs hP hD hS => ?_)
  refine lv_if_eq (tgt := 32) hx hb dX5_isTrunk_4 (by decide) (fun c_2 => ?_) (fun c_2 => ?_)
  · have hF := iteT hF c_2
    refine lv_iconst (v := 0) hx hb dX5_isTrunk_32 (by decide) ?_
    exact g_iretR hx hb hr rfl hlocks hP hK hD hS dX5_isTrunk_33 hF
  · have hF := iteF hF c_2
    refine lv_iload_n hx hb dX5_isTrunk_7 rfl (lv_at hl 1 rfl) ?_
    obtain ⟨r3, er3, hF⟩ := bR_some hF
    refine gc_Si (As := [.int p1]) hS9 (tyc_M_isYard l D ad cA _ σ p1 r3 er3) (va_cwS 1 hts gX5_isTrunk_X5_isYard rfl rfl rfl hd_X5_isYard ⟨by decide, by decide⟩) hK hP hD hS hA hNN rfl hl.1 rfl (Nat.le_of_ble_eq_true rfl) dX5_isTrunk_8 (fun H locs hP hD hS => ?_)
    refine lv_if_eq (tgt := 32) hx hb dX5_isTrunk_11 (by decide) (fun c_4 => ?_) (fun c_4 => ?_)
    · have hF := iteT hF c_4
      refine lv_iconst (v := 0) hx hb dX5_isTrunk_32 (by decide) ?_
      exact g_iretR hx hb hr rfl hlocks hP hK hD hS dX5_isTrunk_33 hF
    · have hF := iteF hF c_4
      refine lv_iload_n hx hb dX5_isTrunk_14 rfl (lv_at hl 0 rfl) ?_
      refine lv_iload_n hx hb dX5_isTrunk_15 rfl (lv_at hl 1 rfl) ?_
      refine lv_icmp_eq (tgt := 32) hx hb dX5_isTrunk_16 (by decide) (fun c_5 => ?_) (fun c_5 => ?_)
      · have hF := iteT hF c_5
        refine lv_iconst (v := 0) hx hb dX5_isTrunk_32 (by decide) ?_
        exact g_iretR hx hb hr rfl hlocks hP hK hD hS dX5_isTrunk_33 hF
      · have hF := iteF hF c_5
        refine lv_iload_n hx hb dX5_isTrunk_19 rfl (lv_at hl 2 rfl) ?_
        refine lv_iconst (v := 0) hx hb dX5_isTrunk_20 (by decide) ?_
        refine lv_iconst (v := 1) hx hb dX5_isTrunk_21 (by decide) ?_
        obtain ⟨r6, er6, hF⟩ := bR_some hF
        refine gc_Si (As := [.int p2, .int 0, .int 1]) hS9 (tyc_M_in l D ad cA _ σ p2 0 1 r6 er6) (va_cwS 3 hts gX5_isTrunk_X5_in rfl rfl rfl hd_X5_in ⟨by decide, by decide⟩) hK hP hD hS hA hNN rfl hl.1 rfl (Nat.le_of_ble_eq_true rfl) dX5_isTrunk_22 (fun H locs hP hD hS => ?_)
        refine lv_if_eq (tgt := 32) hx hb dX5_isTrunk_25 (by decide) (fun c_7 => ?_) (fun c_7 => ?_)
        · have hF := iteT hF c_7
          refine lv_iconst (v := 0) hx hb dX5_isTrunk_32 (by decide) ?_
          exact g_iretR hx hb hr rfl hlocks hP hK hD hS dX5_isTrunk_33 hF
        · have hF := iteF hF c_7
          refine lv_iconst (v := 1) hx hb dX5_isTrunk_28 (by decide) ?_
          refine lv_goto (tgt := 33) hx hb dX5_isTrunk_29 (by decide) ?_
          exact g_iretR hx hb hr rfl hlocks hP hK hD hS dX5_isTrunk_33 hF
set_option maxHeartbeats 4000000 in
set_option maxRecDepth 100000 in
theorem tyc_M_cut (l : Launch) (D : va_G) (ad : Nat → Nat) (cA : Nat → ClassId) (sz : Nat) (σ : tyS) (p1 : Int32) (p2 : Int32) (p3 : Int32) (r : Int32) (τ : tyS) (hF : tyf_M_cut σ p1 p2 p3 = some (r, τ)) : gMi l yX5_cut wsX5_cut ({ frames := 3, cells := 0, slots := 0, locals := 64 } : Room) D (wM ad cA) (tM cA) [.ref (ad 0), .int p1, .int p2, .int p3] sz σ r τ := by
  refine Met.ofW (cc := cX5_cut) (maxL := 5) (ret := (some .int)) (by decide) rfl ?_
  intro p e s m args below meth c s₁ B hml hv
  obtain ⟨rfl, hsz, hP, hK, hD0, hNN⟩ := hv
  have hx := B.exec
  have hb := B.bytes
  have hr := B.returns
  have hts := atoms_spec (ws := wsX5_cut) B.pre
  have hown : s.vm.findClass RX5 = some m.cls := findClass_of_methodNamed B.named
  have hlocks := B.notSynchronized
  subst hsz
  have hD := hD0.self (sz := s.heap.size)
  generalize hAe : va_A (wM ad cA σ) s.heap.size = A at hD ⊢
  have hA : ∀ q : Nat, s.heap.size ≤ q → A q := fun q h => by rw [← hAe]; exact Or.inr h
  clear hAe hD0
  have hS : va_S A s.heap s.heap [] := va_S.rf
  have hl := lv_entry ([.ref (ad 0), .int p1, .int p2, .int p3]) (n := 5) (Nat.le_of_ble_eq_true rfl)
  rw [lg_entry_eq]
  generalize (lg_sl ([.ref (ad 0), .int p1, .int p2, .int p3]) ++ List.replicate (5 - (lg_sl ([.ref (ad 0), .int p1, .int p2, .int p3])).length) Slot.unset).toArray = ls at hl ⊢
  have hl : lv_has ls 5 [(0, .ref (ad 0)), (1, .int p1), (2, .int p2), (3, .int p3)] := hl
  have hS9 : CallFix p m c cX5_cut 5 s _ wsX5_cut RX5 := ⟨hx, hb, hml, hown, hts⟩
  have hw0 := hts (.fieldLink RX5 28 "TrunkYardsModel" "trunk" "[I") (List.mem_cons_of_mem _ (List.mem_of_getElem? (i := 0) rfl))
  have hiX5 : ∀ w ∈ wsX50, w ∈ wsX5_cut := fun w h => List.mem_cons_of_mem _ (List.mem_append_right _ h)
  have hw2 := hts (.fieldLink RX5 80 "TrunkYardsModel" "thrown" "I") (List.mem_cons_of_mem _ (List.mem_of_getElem? (i := 1) rfl))
  have hw3 := hts (.fieldLink RX5 44 "TrunkYardsModel" "open" "[I") (List.mem_cons_of_mem _ (List.mem_of_getElem? (i := 2) rfl))
  have hw4 := hts (.fieldLink RX5 47 "TrunkYardsModel" "state" "[I") (List.mem_cons_of_mem _ (List.mem_of_getElem? (i := 3) rfl))
  have hw5 := hts (.fieldLink RX5 59 "TrunkYardsModel" "lapse" "[I") (List.mem_cons_of_mem _ (List.mem_of_getElem? (i := 4) rfl))
  have hw6 := hts (.fieldLink RX5 171 "TrunkYardsModel" "now" "I") (List.mem_cons_of_mem _ (List.mem_of_getElem? (i := 5) rfl))
  unfold tyf_M_cut at hF
  refine lv_aload_n hx hb dX5_cut_0 rfl (lv_at hl 0 rfl) ?_
  refine lv_iload_n hx hb dX5_cut_1 rfl (lv_at hl 1 rfl) ?_
  refine lv_iload_n hx hb dX5_cut_2 rfl (lv_at hl 2 rfl) ?_
  refine lv_iload_n hx hb dX5_cut_3 rfl (lv_at hl 3 rfl) ?_
  obtain ⟨r1, er1, hF⟩ := bR_some hF
  refine gc_Si (As := [.int p1, .int p2, .int p3]) hS9 (tyc_M_isTrunk l D ad cA _ σ p1 p2 p3 r1 er1) (va_cwS 3 hts gX5_cut_X5_isTrunk rfl rfl rfl hd_X5_isTrunk ⟨by decide, by decide⟩) hK hP hD hS hA hNN rfl hl.1 rfl (Nat.le_of_ble_eq_true rfl) dX5_cut_4 (fun H locs hP hD hS => ?_)
  refine lv_if_ne (tgt := 14) hx hb dX5_cut_7 (by decide) (fun c_2 => ?_) (fun c_2 => ?_)
  · have hF := iteF hF c_2
    refine lv_aload_n hx hb dX5_cut_14 rfl (lv_at hl 0 rfl) ?_
    refine va_get (D := D) (ci := 5) (v := .ref (ad 7)) (C := RX5) (T := TX5) (N := 30) hx hb hts hiX5 hown hK hP 0 (wM_0 ad cA σ) rfl 9 (by decide) hw0 (fun _ h9 => h9) rfl dX5_cut_15 ?_
    refine lv_iload_n hx hb dX5_cut_18 rfl (lv_at hl 1 rfl) ?_
    refine lv_iload_n hx hb dX5_cut_19 rfl (lv_at hl 2 rfl) ?_
    obtain ⟨r3, er3, hF⟩ := bR_some hF
    refine gc_Si (As := [.int p1, .int p2]) hS9 (tyc_M_between l D ad cA _ σ p1 p2 r3 er3) (va_cwS 2 hts gX5_cut_X5_between rfl rfl rfl hd_X5_between ⟨by decide, by decide⟩) hK hP hD hS hA hNN rfl hl.1 rfl (Nat.le_of_ble_eq_true rfl) dX5_cut_20 (fun H locs hP hD hS => ?_)
    refine lv_iload_n hx hb dX5_cut_23 rfl (lv_at hl 3 rfl) ?_
    refine lv_iadd hx hb dX5_cut_24 ?_
    obtain ⟨hb_4, hF⟩ := chk_some hF
    refine va_iald hx hb hK hP 7 6 (wM_7 ad cA σ) (tM_7 cA) hb_4 dX5_cut_25 ?_
    refine lv_bipush (v := (-2)) hx hb dX5_cut_26 (by decide) ?_
    refine lv_icmp_ne (tgt := 35) hx hb dX5_cut_28 (by decide) (fun c_5 => ?_) (fun c_5 => ?_)
    · have hF := iteF hF c_5
      refine lv_iconst (v := 0) hx hb dX5_cut_35 (by decide) ?_
      obtain ⟨σ6, e6, hF⟩ := stp_some hF
      refine gw_put hx hb hts hiX5 tyX5 tyX5_ok nmX5 hown hK hP hD hS 0 (wM_0 ad cA σ) rfl 0 (by decide) hw2 (fun _ h9 => h9) rfl (by decide +kernel) (show 0 < 30 from by decide) (wMv_0 ad cA σ _) dX5_cut_36 e6 (fun H locs hP hD hS => ?_)
      refine lv_aload_n hx hb dX5_cut_39 rfl (lv_at hl 0 rfl) ?_
      refine va_get (D := D) (ci := 5) (v := .int (σ6.2 0)) (C := RX5) (T := TX5) (N := 30) hx hb hts hiX5 hown hK hP 0 (wM_0 ad cA σ6) rfl 0 (by decide) hw2 (fun _ h9 => h9) rfl dX5_cut_40 ?_
      refine lv_as (y := 0) (by rw [e6]; rfl) ?_
      refine lv_if_le (tgt := 48) hx hb dX5_cut_43 (by decide) (fun _ => ?_) (fun h9 => absurd h9 (by decide))
      refine lv_aload_n hx hb dX5_cut_48 rfl (lv_at hl 0 rfl) ?_
      refine va_get (D := D) (ci := 5) (v := .ref (ad 7)) (C := RX5) (T := TX5) (N := 30) hx hb hts hiX5 hown hK hP 0 (wM_0 ad cA σ6) rfl 9 (by decide) hw0 (fun _ h9 => h9) rfl dX5_cut_49 ?_
      refine lv_iload_n hx hb dX5_cut_52 rfl (lv_at hl 1 rfl) ?_
      refine lv_iload_n hx hb dX5_cut_53 rfl (lv_at hl 2 rfl) ?_
      obtain ⟨r7, er7, hF⟩ := bR_some hF
      refine gc_Si (As := [.int p1, .int p2]) hS9 (tyc_M_between l D ad cA _ σ6 p1 p2 r7 er7) (va_cwS 2 hts gX5_cut_X5_between rfl rfl rfl hd_X5_between ⟨by decide, by decide⟩) hK hP hD hS hA hNN rfl hl.1 rfl (Nat.le_of_ble_eq_true rfl) dX5_cut_54 (fun H locs hP hD hS => ?_)
      refine lv_iload_n hx hb dX5_cut_57 rfl (lv_at hl 3 rfl) ?_
      refine lv_iadd hx hb dX5_cut_58 ?_
      obtain ⟨hb_8, hF⟩ := chk_some hF
      refine va_iald hx hb hK hP 7 6 (wM_7 ad cA σ6) (tM_7 cA) hb_8 dX5_cut_59 ?_
      refine lv_istore (lv' := [(4, .int (σ6.1 7 ((r7 + p3)).toNatClampNeg)), (0, .ref (ad 0)), (1, .int p1), (2, .int p2), (3, .int p3)]) hx hb dX5_cut_60 hl (by decide) rfl (fun ls hl => ?_)
      refine lv_iload hx hb dX5_cut_62 (lv_at hl 0 rfl) ?_
      refine lv_iconst (v := (-1)) hx hb dX5_cut_64 (by decide) ?_
      refine lv_icmp_eq (tgt := 117) hx hb dX5_cut_65 (by decide) (fun c_9 => ?_) (fun c_9 => ?_)
      · have hF := iteT hF c_9
        refine lv_aload_n hx hb dX5_cut_117 rfl (lv_at hl 1 rfl) ?_
        refine va_get (D := D) (ci := 5) (v := .ref (ad 7)) (C := RX5) (T := TX5) (N := 30) hx hb hts hiX5 hown hK hP 0 (wM_0 ad cA σ6) rfl 9 (by decide) hw0 (fun _ h9 => h9) rfl dX5_cut_118 ?_
        refine lv_iload_n hx hb dX5_cut_121 rfl (lv_at hl 2 rfl) ?_
        refine lv_iload_n hx hb dX5_cut_122 rfl (lv_at hl 3 rfl) ?_
        obtain ⟨r10, er10, hF⟩ := bR_some hF
        refine gc_Si (As := [.int p1, .int p2]) hS9 (tyc_M_between l D ad cA _ σ6 p1 p2 r10 er10) (va_cwS 2 hts gX5_cut_X5_between rfl rfl rfl hd_X5_between ⟨by decide, by decide⟩) hK hP hD hS hA hNN rfl hl.1 rfl (Nat.le_of_ble_eq_true rfl) dX5_cut_123 (fun H locs hP hD hS => ?_)
        refine lv_iload_n hx hb dX5_cut_126 rfl (lv_at hl 4 rfl) ?_
        refine lv_iadd hx hb dX5_cut_127 ?_
        refine lv_bipush (v := (-2)) hx hb dX5_cut_128 (by decide) ?_
        obtain ⟨hb_11, hF⟩ := chk_some hF
        obtain ⟨σ12, e12, hF⟩ := stp_some hF
        refine gw_iast hx hb hK hP hD hS (wM_7 ad cA σ6) (tM_7 cA) (wMs_7 ad cA σ6) hb_11 dX5_cut_130 e12 (fun H locs hP hD hS => ?_)
        refine lv_iload hx hb dX5_cut_131 (lv_at hl 0 rfl) ?_
        exact g_iretN hx hb hr rfl hlocks hP hK hD hS dX5_cut_133 hF
      · have hF := iteF hF c_9
        refine lv_aload_n hx hb dX5_cut_68 rfl (lv_at hl 1 rfl) ?_
        refine lv_iload hx hb dX5_cut_69 (lv_at hl 0 rfl) ?_
        obtain ⟨σ13, e13, hF⟩ := bR_some hF
        refine gc_Vv (As := [.int (σ6.1 7 ((r7 + p3)).toNatClampNeg)]) hS9 (tyc_M_ends l D ad cA _ σ6 (σ6.1 7 ((r7 + p3)).toNatClampNeg) σ13 e13) (cwV 1 hts gX5_cut_X5_ends rfl rfl rfl hd_X5_ends ⟨by decide, by decide⟩) hK hP hD hS hA hNN (ci := 5) (q0 := 0) (N := 30) rfl (wM_0 ad cA σ6) rfl hl.1 rfl (Nat.le_of_ble_eq_true rfl) dX5_cut_71 (fun H locs hP hD hS => ?_)
        refine lv_aload_n hx hb dX5_cut_74 rfl (lv_at hl 1 rfl) ?_
        refine va_get (D := D) (ci := 5) (v := .ref (ad 12)) (C := RX5) (T := TX5) (N := 30) hx hb hts hiX5 hown hK hP 0 (wM_0 ad cA σ13) rfl 16 (by decide) hw3 (fun _ h9 => h9) rfl dX5_cut_75 ?_
        refine lv_iload hx hb dX5_cut_78 (lv_at hl 0 rfl) ?_
        obtain ⟨hb_14, hF⟩ := chk_some hF
        refine va_iald hx hb hK hP 12 11 (wM_12 ad cA σ13) (tM_12 cA) hb_14 dX5_cut_80 ?_
        refine lv_iconst (v := (-1)) hx hb dX5_cut_81 (by decide) ?_
        refine lv_icmp_eq (tgt := 117) hx hb dX5_cut_82 (by decide) (fun c_15 => ?_) (fun c_15 => ?_)
        · have hF := iteT hF c_15
          refine lv_aload_n hx hb dX5_cut_117 rfl (lv_at hl 1 rfl) ?_
          refine va_get (D := D) (ci := 5) (v := .ref (ad 7)) (C := RX5) (T := TX5) (N := 30) hx hb hts hiX5 hown hK hP 0 (wM_0 ad cA σ13) rfl 9 (by decide) hw0 (fun _ h9 => h9) rfl dX5_cut_118 ?_
          refine lv_iload_n hx hb dX5_cut_121 rfl (lv_at hl 2 rfl) ?_
          refine lv_iload_n hx hb dX5_cut_122 rfl (lv_at hl 3 rfl) ?_
          obtain ⟨r16, er16, hF⟩ := bR_some hF
          refine gc_Si (As := [.int p1, .int p2]) hS9 (tyc_M_between l D ad cA _ σ13 p1 p2 r16 er16) (va_cwS 2 hts gX5_cut_X5_between rfl rfl rfl hd_X5_between ⟨by decide, by decide⟩) hK hP hD hS hA hNN rfl hl.1 rfl (Nat.le_of_ble_eq_true rfl) dX5_cut_123 (fun H locs hP hD hS => ?_)
          refine lv_iload_n hx hb dX5_cut_126 rfl (lv_at hl 4 rfl) ?_
          refine lv_iadd hx hb dX5_cut_127 ?_
          refine lv_bipush (v := (-2)) hx hb dX5_cut_128 (by decide) ?_
          obtain ⟨hb_17, hF⟩ := chk_some hF
          obtain ⟨σ18, e18, hF⟩ := stp_some hF
          refine gw_iast hx hb hK hP hD hS (wM_7 ad cA σ13) (tM_7 cA) (wMs_7 ad cA σ13) hb_17 dX5_cut_130 e18 (fun H locs hP hD hS => ?_)
          refine lv_iload hx hb dX5_cut_131 (lv_at hl 0 rfl) ?_
          exact g_iretN hx hb hr rfl hlocks hP hK hD hS dX5_cut_133 hF
        · have hF := iteF hF c_15
          refine lv_aload_n hx hb dX5_cut_85 rfl (lv_at hl 1 rfl) ?_
          refine va_get (D := D) (ci := 5) (v := .ref (ad 13)) (C := RX5) (T := TX5) (N := 30) hx hb hts hiX5 hown hK hP 0 (wM_0 ad cA σ13) rfl 18 (by decide) hw4 (fun _ h9 => h9) rfl dX5_cut_86 ?_
          refine lv_aload_n hx hb dX5_cut_89 rfl (lv_at hl 1 rfl) ?_
          refine va_get (D := D) (ci := 5) (v := .ref (ad 12)) (C := RX5) (T := TX5) (N := 30) hx hb hts hiX5 hown hK hP 0 (wM_0 ad cA σ13) rfl 16 (by decide) hw3 (fun _ h9 => h9) rfl dX5_cut_90 ?_
          refine lv_iload hx hb dX5_cut_93 (lv_at hl 0 rfl) ?_
          obtain ⟨hb_19, hF⟩ := chk_some hF
          refine va_iald hx hb hK hP 12 11 (wM_12 ad cA σ13) (tM_12 cA) hb_19 dX5_cut_95 ?_
          refine lv_iconst (v := 1) hx hb dX5_cut_96 (by decide) ?_
          obtain ⟨hb_20, hF⟩ := chk_some hF
          obtain ⟨σ21, e21, hF⟩ := stp_some hF
          refine gw_iast hx hb hK hP hD hS (wM_13 ad cA σ13) (tM_13 cA) (wMs_13 ad cA σ13) hb_20 dX5_cut_97 e21 (fun H locs hP hD hS => ?_)
          refine lv_aload_n hx hb dX5_cut_98 rfl (lv_at hl 1 rfl) ?_
          refine va_get (D := D) (ci := 5) (v := .ref (ad 17)) (C := RX5) (T := TX5) (N := 30) hx hb hts hiX5 hown hK hP 0 (wM_0 ad cA σ21) rfl 22 (by decide) hw5 (fun _ h9 => h9) rfl dX5_cut_99 ?_
          refine lv_aload_n hx hb dX5_cut_102 rfl (lv_at hl 1 rfl) ?_
          refine va_get (D := D) (ci := 5) (v := .ref (ad 12)) (C := RX5) (T := TX5) (N := 30) hx hb hts hiX5 hown hK hP 0 (wM_0 ad cA σ21) rfl 16 (by decide) hw3 (fun _ h9 => h9) rfl dX5_cut_103 ?_
          refine lv_iload hx hb dX5_cut_106 (lv_at hl 0 rfl) ?_
          obtain ⟨hb_22, hF⟩ := chk_some hF
          refine va_iald hx hb hK hP 12 11 (wM_12 ad cA σ21) (tM_12 cA) hb_22 dX5_cut_108 ?_
          refine lv_aload_n hx hb dX5_cut_109 rfl (lv_at hl 1 rfl) ?_
          refine va_get (D := D) (ci := 5) (v := .int (σ21.2 1)) (C := RX5) (T := TX5) (N := 30) hx hb hts hiX5 hown hK hP 0 (wM_0 ad cA σ21) rfl 1 (by decide) hw6 (fun _ h9 => h9) rfl dX5_cut_110 ?_
          refine lv_bipush (v := 10) hx hb dX5_cut_113 (by decide) ?_
          refine lv_iadd hx hb dX5_cut_115 ?_
          obtain ⟨hb_23, hF⟩ := chk_some hF
          obtain ⟨σ24, e24, hF⟩ := stp_some hF
          refine gw_iast hx hb hK hP hD hS (wM_17 ad cA σ21) (tM_17 cA) (wMs_17 ad cA σ21) hb_23 dX5_cut_116 e24 (fun H locs hP hD hS => ?_)
          refine lv_aload_n hx hb dX5_cut_117 rfl (lv_at hl 1 rfl) ?_
          refine va_get (D := D) (ci := 5) (v := .ref (ad 7)) (C := RX5) (T := TX5) (N := 30) hx hb hts hiX5 hown hK hP 0 (wM_0 ad cA σ24) rfl 9 (by decide) hw0 (fun _ h9 => h9) rfl dX5_cut_118 ?_
          refine lv_iload_n hx hb dX5_cut_121 rfl (lv_at hl 2 rfl) ?_
          refine lv_iload_n hx hb dX5_cut_122 rfl (lv_at hl 3 rfl) ?_
          obtain ⟨r25, er25, hF⟩ := bR_some hF
          refine gc_Si (As := [.int p1, .int p2]) hS9 (tyc_M_between l D ad cA _ σ24 p1 p2 r25 er25) (va_cwS 2 hts gX5_cut_X5_between rfl rfl rfl hd_X5_between ⟨by decide, by decide⟩) hK hP hD hS hA hNN rfl hl.1 rfl (Nat.le_of_ble_eq_true rfl) dX5_cut_123 (fun H locs hP hD hS => ?_)
          refine lv_iload_n hx hb dX5_cut_126 rfl (lv_at hl 4 rfl) ?_
          refine lv_iadd hx hb dX5_cut_127 ?_
          refine lv_bipush (v := (-2)) hx hb dX5_cut_128 (by decide) ?_
          obtain ⟨hb_26, hF⟩ := chk_some hF
          obtain ⟨σ27, e27, hF⟩ := stp_some hF
          refine gw_iast hx hb hK hP hD hS (wM_7 ad cA σ24) (tM_7 cA) (wMs_7 ad cA σ24) hb_26 dX5_cut_130 e27 (fun H locs hP hD hS => ?_)
          refine lv_iload hx hb dX5_cut_131 (lv_at hl 0 rfl) ?_
          exact g_iretN hx hb hr rfl hlocks hP hK hD hS dX5_cut_133 hF
    · have hF := iteT hF c_5
      refine lv_iconst (v := 2) hx hb dX5_cut_31 (by decide) ?_
      refine lv_goto (tgt := 36) hx hb dX5_cut_32 (by decide) ?_
      obtain ⟨σ28, e28, hF⟩ := stp_some hF
      refine gw_put hx hb hts hiX5 tyX5 tyX5_ok nmX5 hown hK hP hD hS 0 (wM_0 ad cA σ) rfl 0 (by decide) hw2 (fun _ h9 => h9) rfl (by decide +kernel) (show 0 < 30 from by decide) (wMv_0 ad cA σ _) dX5_cut_36 e28 (fun H locs hP hD hS => ?_)
      refine lv_aload_n hx hb dX5_cut_39 rfl (lv_at hl 0 rfl) ?_
      refine va_get (D := D) (ci := 5) (v := .int (σ28.2 0)) (C := RX5) (T := TX5) (N := 30) hx hb hts hiX5 hown hK hP 0 (wM_0 ad cA σ28) rfl 0 (by decide) hw2 (fun _ h9 => h9) rfl dX5_cut_40 ?_
      refine lv_as (y := 2) (by rw [e28]; rfl) ?_
      refine lv_if_le (tgt := 48) hx hb dX5_cut_43 (by decide) (fun h9 => absurd h9 (by decide)) (fun _ => ?_)
      refine lv_iconst (v := 0) hx hb dX5_cut_46 (by decide) ?_
      exact g_iretN hx hb hr rfl hlocks hP hK hD hS dX5_cut_47 hF
  · have hF := iteT hF c_2
    refine lv_iconst (v := 1) hx hb dX5_cut_10 (by decide) ?_
    refine lv_goto (tgt := 36) hx hb dX5_cut_11 (by decide) ?_
    obtain ⟨σ29, e29, hF⟩ := stp_some hF
    refine gw_put hx hb hts hiX5 tyX5 tyX5_ok nmX5 hown hK hP hD hS 0 (wM_0 ad cA σ) rfl 0 (by decide) hw2 (fun _ h9 => h9) rfl (by decide +kernel) (show 0 < 30 from by decide) (wMv_0 ad cA σ _) dX5_cut_36 e29 (fun H locs hP hD hS => ?_)
    refine lv_aload_n hx hb dX5_cut_39 rfl (lv_at hl 0 rfl) ?_
    refine va_get (D := D) (ci := 5) (v := .int (σ29.2 0)) (C := RX5) (T := TX5) (N := 30) hx hb hts hiX5 hown hK hP 0 (wM_0 ad cA σ29) rfl 0 (by decide) hw2 (fun _ h9 => h9) rfl dX5_cut_40 ?_
    refine lv_as (y := 1) (by rw [e29]; rfl) ?_
    refine lv_if_le (tgt := 48) hx hb dX5_cut_43 (by decide) (fun h9 => absurd h9 (by decide)) (fun _ => ?_)
    refine lv_iconst (v := 0) hx hb dX5_cut_46 (by decide) ?_
    exact g_iretN hx hb hr rfl hlocks hP hK hD hS dX5_cut_47 hF
