set_option maxHeartbeats 4000000 in
set_option maxRecDepth 100000 in
theorem tyc_M_call (l : Launch) (D : va_G) (ad : Nat → Nat) (cA : Nat → ClassId) (sz : Nat) (σ : tyS) (p1 : Int32) (p2 : Int32) (r : Int32) (τ : tyS) (hF : tyf_M_call σ p1 p2 = some (r, τ)) : gMi l yX5_call wsX5_call ({ frames := 3, cells := 0, slots := 0, locals := 70 } : Room) D (wM ad cA) (tM cA) [.ref (ad 0), .int p1, .int p2] sz σ r τ := by
  refine Met.ofW (cc := cX5_call) (maxL := 3) (ret := (some .int)) (by decide) rfl ?_
  intro p e s m args below meth c s₁ B hml hv
  obtain ⟨rfl, hsz, hP, hK, hD0, hNN⟩ := hv
  have hx := B.exec
  have hb := B.bytes
  have hr := B.returns
  have hts := atoms_spec (ws := wsX5_call) B.pre
  have hown : s.vm.findClass RX5 = some m.cls := findClass_of_methodNamed B.named
  have hlocks := B.notSynchronized
  subst hsz
  have hD := hD0.self (sz := s.heap.size)
  generalize hAe : va_A (wM ad cA σ) s.heap.size = A at hD ⊢
  have hA : ∀ q : Nat, s.heap.size ≤ q → A q := fun q h => by rw [← hAe]; exact Or.inr h
  clear hAe hD0
  have hS : va_S A s.heap s.heap [] := va_S.rf
  have hl := lv_entry ([.ref (ad 0), .int p1, .int p2]) (n := 3) (Nat.le_of_ble_eq_true rfl)
  rw [lg_entry_eq]
  generalize (lg_sl ([.ref (ad 0), .int p1, .int p2]) ++ List.replicate (3 - (lg_sl ([.ref (ad 0), .int p1, .int p2])).length) Slot.unset).toArray = ls at hl ⊢
  have hl : lv_has ls 3 [(0, .ref (ad 0)), (1, .int p1), (2, .int p2)] := hl
  have hS9 : CallFix p m c cX5_call 3 s _ wsX5_call RX5 := ⟨hx, hb, hml, hown, hts⟩
  have hw0 := hts (.fieldLink RX5 80 "TrunkYardsModel" "thrown" "I") (List.mem_cons_of_mem _ (List.mem_of_getElem? (i := 1) rfl))
  have hiX5 : ∀ w ∈ wsX50, w ∈ wsX5_call := fun w h => List.mem_cons_of_mem _ (List.mem_append_right _ h)
  have hw2 := hts (.fieldLink RX5 119 "TrunkYardsModel" "calls" "I") (List.mem_cons_of_mem _ (List.mem_of_getElem? (i := 0) rfl))
  have hw3 := hts (.fieldLink RX5 31 "TrunkYardsModel" "lines" "[I") (List.mem_cons_of_mem _ (List.mem_of_getElem? (i := 2) rfl))
  have hw4 := hts (.fieldLink RX5 142 "TrunkYardsModel" "busy" "I") (List.mem_cons_of_mem _ (List.mem_of_getElem? (i := 3) rfl))
  have hw5 := hts (.fieldLink RX5 34 "TrunkYardsModel" "customer" "[I") (List.mem_cons_of_mem _ (List.mem_of_getElem? (i := 4) rfl))
  have hw6 := hts (.fieldLink RX5 37 "TrunkYardsModel" "yard" "[I") (List.mem_cons_of_mem _ (List.mem_of_getElem? (i := 5) rfl))
  have hw7 := hts (.fieldLink RX5 40 "TrunkYardsModel" "goesOn" "[Z") (List.mem_cons_of_mem _ (List.mem_of_getElem? (i := 6) rfl))
  have hw8 := hts (.fieldLink RX5 44 "TrunkYardsModel" "open" "[I") (List.mem_cons_of_mem _ (List.mem_of_getElem? (i := 7) rfl))
  unfold tyf_M_call at hF
  refine lv_aload_n hx hb dX5_call_0 rfl (lv_at hl 0 rfl) ?_
  refine lv_iload_n hx hb dX5_call_1 rfl (lv_at hl 1 rfl) ?_
  refine lv_iconst (v := 0) hx hb dX5_call_2 (by decide) ?_
  refine lv_iconst (v := 5) hx hb dX5_call_3 (by decide) ?_
  obtain ⟨r1, er1, hF⟩ := bR_some hF
  refine gc_Si (As := [.int p1, .int 0, .int 5]) hS9 (tyc_M_in l D ad cA _ σ p1 0 5 r1 er1) (va_cwS 3 hts gX5_call_X5_in rfl rfl rfl hd_X5_in ⟨by decide, by decide⟩) hK hP hD hS hA hNN rfl hl.1 rfl (Nat.le_of_ble_eq_true rfl) dX5_call_4 (fun H locs hP hD hS => ?_)
  refine lv_if_eq (tgt := 17) hx hb dX5_call_7 (by decide) (fun c_2 => ?_) (fun c_2 => ?_)
  · have hF := iteT hF c_2
    refine lv_iconst (v := 1) hx hb dX5_call_17 (by decide) ?_
    refine lv_goto (tgt := 44) hx hb dX5_call_18 (by decide) ?_
    obtain ⟨σ3, e3, hF⟩ := stp_some hF
    refine gw_put hx hb hts hiX5 tyX5 tyX5_ok nmX5 hown hK hP hD hS 0 (wM_0 ad cA σ) rfl 0 (by decide) hw0 (fun _ h9 => h9) rfl (by decide +kernel) (show 0 < 30 from by decide) (wMv_0 ad cA σ _) dX5_call_44 e3 (fun H locs hP hD hS => ?_)
    refine lv_aload_n hx hb dX5_call_47 rfl (lv_at hl 0 rfl) ?_
    refine va_get (D := D) (ci := 5) (v := .int (σ3.2 0)) (C := RX5) (T := TX5) (N := 30) hx hb hts hiX5 hown hK hP 0 (wM_0 ad cA σ3) rfl 0 (by decide) hw0 (fun _ h9 => h9) rfl dX5_call_48 ?_
    refine lv_as (y := 1) (by rw [e3]; rfl) ?_
    refine lv_if_le (tgt := 56) hx hb dX5_call_51 (by decide) (fun h9 => absurd h9 (by decide)) (fun _ => ?_)
    refine lv_iconst (v := 0) hx hb dX5_call_54 (by decide) ?_
    exact g_iretN hx hb hr rfl hlocks hP hK hD hS dX5_call_55 hF
  · have hF := iteF hF c_2
    refine lv_iload_n hx hb dX5_call_10 rfl (lv_at hl 2 rfl) ?_
    obtain ⟨r4, er4, hF⟩ := bR_some hF
    refine gc_Si (As := [.int p2]) hS9 (tyc_M_isYard l D ad cA _ σ p2 r4 er4) (va_cwS 1 hts gX5_call_X5_isYard rfl rfl rfl hd_X5_isYard ⟨by decide, by decide⟩) hK hP hD hS hA hNN rfl hl.1 rfl (Nat.le_of_ble_eq_true rfl) dX5_call_11 (fun H locs hP hD hS => ?_)
    refine lv_if_ne (tgt := 21) hx hb dX5_call_14 (by decide) (fun c_5 => ?_) (fun c_5 => ?_)
    · have hF := iteF hF c_5
      refine lv_aload_n hx hb dX5_call_21 rfl (lv_at hl 0 rfl) ?_
      refine lv_iload_n hx hb dX5_call_22 rfl (lv_at hl 1 rfl) ?_
      obtain ⟨r6, er6, hF⟩ := bR_some hF
      refine gc_Vi (As := [.int p1]) hS9 (tyc_M_callNow l D ad cA _ σ p1 r6 er6) (cwV 1 hts gX5_call_X5_callNow rfl rfl rfl hd_X5_callNow ⟨by decide, by decide⟩) hK hP hD hS hA hNN (ci := 5) (q0 := 0) (N := 30) rfl (wM_0 ad cA σ) rfl hl.1 rfl (Nat.le_of_ble_eq_true rfl) dX5_call_23 (fun H locs hP hD hS => ?_)
      refine lv_iconst (v := (-1)) hx hb dX5_call_26 (by decide) ?_
      refine lv_icmp_ne (tgt := 39) hx hb dX5_call_27 (by decide) (fun c_7 => ?_) (fun c_7 => ?_)
      · have hF := iteF hF c_7
        refine lv_iconst (v := 2) hx hb dX5_call_39 (by decide) ?_
        refine lv_goto (tgt := 44) hx hb dX5_call_40 (by decide) ?_
        obtain ⟨σ8, e8, hF⟩ := stp_some hF
        refine gw_put hx hb hts hiX5 tyX5 tyX5_ok nmX5 hown hK hP hD hS 0 (wM_0 ad cA σ) rfl 0 (by decide) hw0 (fun _ h9 => h9) rfl (by decide +kernel) (show 0 < 30 from by decide) (wMv_0 ad cA σ _) dX5_call_44 e8 (fun H locs hP hD hS => ?_)
        refine lv_aload_n hx hb dX5_call_47 rfl (lv_at hl 0 rfl) ?_
        refine va_get (D := D) (ci := 5) (v := .int (σ8.2 0)) (C := RX5) (T := TX5) (N := 30) hx hb hts hiX5 hown hK hP 0 (wM_0 ad cA σ8) rfl 0 (by decide) hw0 (fun _ h9 => h9) rfl dX5_call_48 ?_
        refine lv_as (y := 2) (by rw [e8]; rfl) ?_
        refine lv_if_le (tgt := 56) hx hb dX5_call_51 (by decide) (fun h9 => absurd h9 (by decide)) (fun _ => ?_)
        refine lv_iconst (v := 0) hx hb dX5_call_54 (by decide) ?_
        exact g_iretN hx hb hr rfl hlocks hP hK hD hS dX5_call_55 hF
      · have hF := iteT hF c_7
        refine lv_aload_n hx hb dX5_call_30 rfl (lv_at hl 0 rfl) ?_
        refine va_get (D := D) (ci := 5) (v := .int (σ.2 3)) (C := RX5) (T := TX5) (N := 30) hx hb hts hiX5 hown hK hP 0 (wM_0 ad cA σ) rfl 11 (by decide) hw2 (fun _ h9 => h9) rfl dX5_call_31 ?_
        refine lv_bipush (v := 60) hx hb dX5_call_34 (by decide) ?_
        refine lv_icmp_ne (tgt := 43) hx hb dX5_call_36 (by decide) (fun c_9 => ?_) (fun c_9 => ?_)
        · have hF := iteF hF c_9
          refine lv_iconst (v := 0) hx hb dX5_call_43 (by decide) ?_
          obtain ⟨σ10, e10, hF⟩ := stp_some hF
          refine gw_put hx hb hts hiX5 tyX5 tyX5_ok nmX5 hown hK hP hD hS 0 (wM_0 ad cA σ) rfl 0 (by decide) hw0 (fun _ h9 => h9) rfl (by decide +kernel) (show 0 < 30 from by decide) (wMv_0 ad cA σ _) dX5_call_44 e10 (fun H locs hP hD hS => ?_)
          refine lv_aload_n hx hb dX5_call_47 rfl (lv_at hl 0 rfl) ?_
          refine va_get (D := D) (ci := 5) (v := .int (σ10.2 0)) (C := RX5) (T := TX5) (N := 30) hx hb hts hiX5 hown hK hP 0 (wM_0 ad cA σ10) rfl 0 (by decide) hw0 (fun _ h9 => h9) rfl dX5_call_48 ?_
          refine lv_as (y := 0) (by rw [e10]; rfl) ?_
          refine lv_if_le (tgt := 56) hx hb dX5_call_51 (by decide) (fun _ => ?_) (fun h9 => absurd h9 (by decide))
          refine lv_aload_n hx hb dX5_call_56 rfl (lv_at hl 0 rfl) ?_
          refine lv_iload_n hx hb dX5_call_57 rfl (lv_at hl 2 rfl) ?_
          obtain ⟨r11, er11, hF⟩ := bR_some hF
          refine gc_Vi (As := [.int p2]) hS9 (tyc_M_callsTo l D ad cA _ σ10 p2 r11 er11) (cwV 1 hts gX5_call_X5_callsTo rfl rfl rfl hd_X5_callsTo ⟨by decide, by decide⟩) hK hP hD hS hA hNN (ci := 5) (q0 := 0) (N := 30) rfl (wM_0 ad cA σ10) rfl hl.1 rfl (Nat.le_of_ble_eq_true rfl) dX5_call_58 (fun H locs hP hD hS => ?_)
          refine lv_aload_n hx hb dX5_call_61 rfl (lv_at hl 0 rfl) ?_
          refine va_get (D := D) (ci := 5) (v := .ref (ad 8)) (C := RX5) (T := TX5) (N := 30) hx hb hts hiX5 hown hK hP 0 (wM_0 ad cA σ10) rfl 10 (by decide) hw3 (fun _ h9 => h9) rfl dX5_call_62 ?_
          refine lv_iload_n hx hb dX5_call_65 rfl (lv_at hl 2 rfl) ?_
          obtain ⟨hb_12, hF⟩ := chk_some hF
          refine va_iald hx hb hK hP 8 7 (wM_8 ad cA σ10) (tM_8 cA) hb_12 dX5_call_66 ?_
          refine lv_icmp_ge (tgt := 81) hx hb dX5_call_67 (by decide) (fun c_13 => ?_) (fun c_13 => ?_)
          · have hF := iteT hF c_13
            refine lv_aload_n hx hb dX5_call_81 rfl (lv_at hl 0 rfl) ?_
            refine lv_dup hx hb dX5_call_82 rfl ?_
            refine va_get (D := D) (ci := 5) (v := .int (σ10.2 4)) (C := RX5) (T := TX5) (N := 30) hx hb hts hiX5 hown hK hP 0 (wM_0 ad cA σ10) rfl 12 (by decide) hw4 (fun _ h9 => h9) rfl dX5_call_83 ?_
            refine lv_iconst (v := 1) hx hb dX5_call_86 (by decide) ?_
            refine lv_iadd hx hb dX5_call_87 ?_
            obtain ⟨σ14, e14, hF⟩ := stp_some hF
            refine gw_put hx hb hts hiX5 tyX5 tyX5_ok nmX5 hown hK hP hD hS 0 (wM_0 ad cA σ10) rfl 12 (by decide) hw4 (fun _ h9 => h9) rfl (by decide +kernel) (show 12 < 30 from by decide) (wMv_4 ad cA σ10 _) dX5_call_88 e14 (fun H locs hP hD hS => ?_)
            refine lv_iconst (v := (-1)) hx hb dX5_call_91 (by decide) ?_
            exact g_iretN hx hb hr rfl hlocks hP hK hD hS dX5_call_92 hF
          · have hF := iteF hF c_13
            refine lv_aload_n hx hb dX5_call_70 rfl (lv_at hl 0 rfl) ?_
            refine lv_iload_n hx hb dX5_call_71 rfl (lv_at hl 1 rfl) ?_
            refine lv_iconst (v := 3) hx hb dX5_call_72 (by decide) ?_
            refine lv_irem hx hb dX5_call_73 (by decide) ?_
            refine lv_iload_n hx hb dX5_call_74 rfl (lv_at hl 2 rfl) ?_
            obtain ⟨r16, σ15, er16, hF⟩ := bN_some hF
            refine gc_Vi (As := [.int (p1 - p1 / 3 * 3), .int p2]) hS9 (tyc_M_takesWay l D ad cA _ σ10 (p1 - p1 / 3 * 3) p2 r16 σ15 er16) (cwV 2 hts gX5_call_X5_takesWay rfl rfl rfl hd_X5_takesWay ⟨by decide, by decide⟩) hK hP hD hS hA hNN (ci := 5) (q0 := 0) (N := 30) rfl (wM_0 ad cA σ10) rfl hl.1 rfl (Nat.le_of_ble_eq_true rfl) dX5_call_75 (fun H locs hP hD hS => ?_)
            refine lv_if_ne (tgt := 93) hx hb dX5_call_78 (by decide) (fun c_17 => ?_) (fun c_17 => ?_)
            · have hF := iteF hF c_17
              refine lv_aload_n hx hb dX5_call_93 rfl (lv_at hl 0 rfl) ?_
              refine va_get (D := D) (ci := 5) (v := .ref (ad 9)) (C := RX5) (T := TX5) (N := 30) hx hb hts hiX5 hown hK hP 0 (wM_0 ad cA σ15) rfl 13 (by decide) hw5 (fun _ h9 => h9) rfl dX5_call_94 ?_
              refine lv_aload_n hx hb dX5_call_97 rfl (lv_at hl 0 rfl) ?_
              refine va_get (D := D) (ci := 5) (v := .int (σ15.2 3)) (C := RX5) (T := TX5) (N := 30) hx hb hts hiX5 hown hK hP 0 (wM_0 ad cA σ15) rfl 11 (by decide) hw2 (fun _ h9 => h9) rfl dX5_call_98 ?_
              refine lv_iload_n hx hb dX5_call_101 rfl (lv_at hl 1 rfl) ?_
              obtain ⟨hb_18, hF⟩ := chk_some hF
              obtain ⟨σ19, e19, hF⟩ := stp_some hF
              refine gw_iast hx hb hK hP hD hS (wM_9 ad cA σ15) (tM_9 cA) (wMs_9 ad cA σ15) hb_18 dX5_call_102 e19 (fun H locs hP hD hS => ?_)
              refine lv_aload_n hx hb dX5_call_103 rfl (lv_at hl 0 rfl) ?_
              refine va_get (D := D) (ci := 5) (v := .ref (ad 10)) (C := RX5) (T := TX5) (N := 30) hx hb hts hiX5 hown hK hP 0 (wM_0 ad cA σ19) rfl 14 (by decide) hw6 (fun _ h9 => h9) rfl dX5_call_104 ?_
              refine lv_aload_n hx hb dX5_call_107 rfl (lv_at hl 0 rfl) ?_
              refine va_get (D := D) (ci := 5) (v := .int (σ19.2 3)) (C := RX5) (T := TX5) (N := 30) hx hb hts hiX5 hown hK hP 0 (wM_0 ad cA σ19) rfl 11 (by decide) hw2 (fun _ h9 => h9) rfl dX5_call_108 ?_
              refine lv_iload_n hx hb dX5_call_111 rfl (lv_at hl 2 rfl) ?_
              obtain ⟨hb_20, hF⟩ := chk_some hF
              obtain ⟨σ21, e21, hF⟩ := stp_some hF
              refine gw_iast hx hb hK hP hD hS (wM_10 ad cA σ19) (tM_10 cA) (wMs_10 ad cA σ19) hb_20 dX5_call_112 e21 (fun H locs hP hD hS => ?_)
              refine lv_aload_n hx hb dX5_call_113 rfl (lv_at hl 0 rfl) ?_
              refine va_get (D := D) (ci := 5) (v := .ref (ad 11)) (C := RX5) (T := TX5) (N := 30) hx hb hts hiX5 hown hK hP 0 (wM_0 ad cA σ21) rfl 15 (by decide) hw7 (fun _ h9 => h9) rfl dX5_call_114 ?_
              refine lv_aload_n hx hb dX5_call_117 rfl (lv_at hl 0 rfl) ?_
              refine va_get (D := D) (ci := 5) (v := .int (σ21.2 3)) (C := RX5) (T := TX5) (N := 30) hx hb hts hiX5 hown hK hP 0 (wM_0 ad cA σ21) rfl 11 (by decide) hw2 (fun _ h9 => h9) rfl dX5_call_118 ?_
              refine lv_iconst (v := 1) hx hb dX5_call_121 (by decide) ?_
              obtain ⟨hb_22, hF⟩ := chk_some hF
              obtain ⟨σ23, e23, hF⟩ := stp_some hF
              refine gw_zast hx hb hK hP hD hS (wM_11 ad cA σ21) (tM_11 cA) (wMs_11 ad cA σ21) (by decide) hb_22 dX5_call_122 e23 (fun H locs hP hD hS => ?_)
              refine lv_aload_n hx hb dX5_call_123 rfl (lv_at hl 0 rfl) ?_
              refine va_get (D := D) (ci := 5) (v := .ref (ad 12)) (C := RX5) (T := TX5) (N := 30) hx hb hts hiX5 hown hK hP 0 (wM_0 ad cA σ23) rfl 16 (by decide) hw8 (fun _ h9 => h9) rfl dX5_call_124 ?_
              refine lv_aload_n hx hb dX5_call_127 rfl (lv_at hl 0 rfl) ?_
              refine va_get (D := D) (ci := 5) (v := .int (σ23.2 3)) (C := RX5) (T := TX5) (N := 30) hx hb hts hiX5 hown hK hP 0 (wM_0 ad cA σ23) rfl 11 (by decide) hw2 (fun _ h9 => h9) rfl dX5_call_128 ?_
              refine lv_iconst (v := (-1)) hx hb dX5_call_131 (by decide) ?_
              obtain ⟨hb_24, hF⟩ := chk_some hF
              obtain ⟨σ25, e25, hF⟩ := stp_some hF
              refine gw_iast hx hb hK hP hD hS (wM_12 ad cA σ23) (tM_12 cA) (wMs_12 ad cA σ23) hb_24 dX5_call_132 e25 (fun H locs hP hD hS => ?_)
              refine lv_aload_n hx hb dX5_call_133 rfl (lv_at hl 0 rfl) ?_
              refine lv_dup hx hb dX5_call_134 rfl ?_
              refine va_get (D := D) (ci := 5) (v := .int (σ25.2 3)) (C := RX5) (T := TX5) (N := 30) hx hb hts hiX5 hown hK hP 0 (wM_0 ad cA σ25) rfl 11 (by decide) hw2 (fun _ h9 => h9) rfl dX5_call_135 ?_
              refine lv_iconst (v := 1) hx hb dX5_call_138 (by decide) ?_
              refine lv_iadd hx hb dX5_call_139 ?_
              obtain ⟨σ26, e26, hF⟩ := stp_some hF
              refine gw_put hx hb hts hiX5 tyX5 tyX5_ok nmX5 hown hK hP hD hS 0 (wM_0 ad cA σ25) rfl 11 (by decide) hw2 (fun _ h9 => h9) rfl (by decide +kernel) (show 11 < 30 from by decide) (wMv_3 ad cA σ25 _) dX5_call_140 e26 (fun H locs hP hD hS => ?_)
              refine lv_aload_n hx hb dX5_call_143 rfl (lv_at hl 0 rfl) ?_
              refine va_get (D := D) (ci := 5) (v := .int (σ26.2 3)) (C := RX5) (T := TX5) (N := 30) hx hb hts hiX5 hown hK hP 0 (wM_0 ad cA σ26) rfl 11 (by decide) hw2 (fun _ h9 => h9) rfl dX5_call_144 ?_
              refine lv_iconst (v := 1) hx hb dX5_call_147 (by decide) ?_
              refine lv_isub hx hb dX5_call_148 ?_
              exact g_iretN hx hb hr rfl hlocks hP hK hD hS dX5_call_149 hF
            · have hF := iteT hF c_17
              refine lv_aload_n hx hb dX5_call_81 rfl (lv_at hl 0 rfl) ?_
              refine lv_dup hx hb dX5_call_82 rfl ?_
              refine va_get (D := D) (ci := 5) (v := .int (σ15.2 4)) (C := RX5) (T := TX5) (N := 30) hx hb hts hiX5 hown hK hP 0 (wM_0 ad cA σ15) rfl 12 (by decide) hw4 (fun _ h9 => h9) rfl dX5_call_83 ?_
              refine lv_iconst (v := 1) hx hb dX5_call_86 (by decide) ?_
              refine lv_iadd hx hb dX5_call_87 ?_
              obtain ⟨σ27, e27, hF⟩ := stp_some hF
              refine gw_put hx hb hts hiX5 tyX5 tyX5_ok nmX5 hown hK hP hD hS 0 (wM_0 ad cA σ15) rfl 12 (by decide) hw4 (fun _ h9 => h9) rfl (by decide +kernel) (show 12 < 30 from by decide) (wMv_4 ad cA σ15 _) dX5_call_88 e27 (fun H locs hP hD hS => ?_)
              refine lv_iconst (v := (-1)) hx hb dX5_call_91 (by decide) ?_
              exact g_iretN hx hb hr rfl hlocks hP hK hD hS dX5_call_92 hF
        · have hF := iteT hF c_9
          refine lv_iconst (v := 2) hx hb dX5_call_39 (by decide) ?_
          refine lv_goto (tgt := 44) hx hb dX5_call_40 (by decide) ?_
          obtain ⟨σ28, e28, hF⟩ := stp_some hF
          refine gw_put hx hb hts hiX5 tyX5 tyX5_ok nmX5 hown hK hP hD hS 0 (wM_0 ad cA σ) rfl 0 (by decide) hw0 (fun _ h9 => h9) rfl (by decide +kernel) (show 0 < 30 from by decide) (wMv_0 ad cA σ _) dX5_call_44 e28 (fun H locs hP hD hS => ?_)
          refine lv_aload_n hx hb dX5_call_47 rfl (lv_at hl 0 rfl) ?_
          refine va_get (D := D) (ci := 5) (v := .int (σ28.2 0)) (C := RX5) (T := TX5) (N := 30) hx hb hts hiX5 hown hK hP 0 (wM_0 ad cA σ28) rfl 0 (by decide) hw0 (fun _ h9 => h9) rfl dX5_call_48 ?_
          refine lv_as (y := 2) (by rw [e28]; rfl) ?_
          refine lv_if_le (tgt := 56) hx hb dX5_call_51 (by decide) (fun h9 => absurd h9 (by decide)) (fun _ => ?_)
          refine lv_iconst (v := 0) hx hb dX5_call_54 (by decide) ?_
          exact g_iretN hx hb hr rfl hlocks hP hK hD hS dX5_call_55 hF
    · have hF := iteT hF c_5
      refine lv_iconst (v := 1) hx hb dX5_call_17 (by decide) ?_
      refine lv_goto (tgt := 44) hx hb dX5_call_18 (by decide) ?_
      obtain ⟨σ29, e29, hF⟩ := stp_some hF
      refine gw_put hx hb hts hiX5 tyX5 tyX5_ok nmX5 hown hK hP hD hS 0 (wM_0 ad cA σ) rfl 0 (by decide) hw0 (fun _ h9 => h9) rfl (by decide +kernel) (show 0 < 30 from by decide) (wMv_0 ad cA σ _) dX5_call_44 e29 (fun H locs hP hD hS => ?_)
      refine lv_aload_n hx hb dX5_call_47 rfl (lv_at hl 0 rfl) ?_
      refine va_get (D := D) (ci := 5) (v := .int (σ29.2 0)) (C := RX5) (T := TX5) (N := 30) hx hb hts hiX5 hown hK hP 0 (wM_0 ad cA σ29) rfl 0 (by decide) hw0 (fun _ h9 => h9) rfl dX5_call_48 ?_
      refine lv_as (y := 1) (by rw [e29]; rfl) ?_
      refine lv_if_le (tgt := 56) hx hb dX5_call_51 (by decide) (fun h9 => absurd h9 (by decide)) (fun _ => ?_)
      refine lv_iconst (v := 0) hx hb dX5_call_54 (by decide) ?_
      exact g_iretN hx hb hr rfl hlocks hP hK hD hS dX5_call_55 hF
set_option maxHeartbeats 4000000 in
set_option maxRecDepth 100000 in
theorem tyc_M_isCall (l : Launch) (D : va_G) (ad : Nat → Nat) (cA : Nat → ClassId) (sz : Nat) (σ : tyS) (p1 : Int32) (r : Int32) (hF : tyf_M_isCall σ p1 = some r) : gMi l yX5_isCall wsX5_isCall ({ frames := 1, cells := 0, slots := 0, locals := 22 } : Room) D (wM ad cA) (tM cA) [.ref (ad 0), .int p1] sz σ r σ := by
  refine Met.ofW (cc := cX5_isCall) (maxL := 2) (ret := (some .boolean)) (by decide) rfl ?_
  intro p e s m args below meth c s₁ B hml hv
  obtain ⟨rfl, hsz, hP, hK, hD0, hNN⟩ := hv
  have hx := B.exec
  have hb := B.bytes
  have hr := B.returns
  have hts := atoms_spec (ws := wsX5_isCall) B.pre
  have hown : s.vm.findClass RX5 = some m.cls := findClass_of_methodNamed B.named
  have hlocks := B.notSynchronized
  subst hsz
  have hD := hD0.self (sz := s.heap.size)
  generalize hAe : va_A (wM ad cA σ) s.heap.size = A at hD ⊢
  have hA : ∀ q : Nat, s.heap.size ≤ q → A q := fun q h => by rw [← hAe]; exact Or.inr h
  clear hAe hD0
  have hS : va_S A s.heap s.heap [] := va_S.rf
  have hl := lv_entry ([.ref (ad 0), .int p1]) (n := 2) (Nat.le_of_ble_eq_true rfl)
  rw [lg_entry_eq]
  generalize (lg_sl ([.ref (ad 0), .int p1]) ++ List.replicate (2 - (lg_sl ([.ref (ad 0), .int p1])).length) Slot.unset).toArray = ls at hl ⊢
  have hl : lv_has ls 2 [(0, .ref (ad 0)), (1, .int p1)] := hl
  have hS9 : CallFix p m c cX5_isCall 2 s _ wsX5_isCall RX5 := ⟨hx, hb, hml, hown, hts⟩
  have hw0 := hts (.fieldLink RX5 119 "TrunkYardsModel" "calls" "I") (List.mem_cons_of_mem _ (List.mem_of_getElem? (i := 0) rfl))
  have hiX5 : ∀ w ∈ wsX50, w ∈ wsX5_isCall := fun w h => List.mem_cons_of_mem _ (List.mem_append_right _ h)
  unfold tyf_M_isCall at hF
  refine lv_iload_n hx hb dX5_isCall_0 rfl (lv_at hl 1 rfl) ?_
  refine lv_iconst (v := 0) hx hb dX5_isCall_1 (by decide) ?_
  refine lv_aload_n hx hb dX5_isCall_2 rfl (lv_at hl 0 rfl) ?_
  refine va_get (D := D) (ci := 5) (v := .int (σ.2 3)) (C := RX5) (T := TX5) (N := 30) hx hb hts hiX5 hown hK hP 0 (wM_0 ad cA σ) rfl 11 (by decide) hw0 (fun _ h9 => h9) rfl dX5_isCall_3 ?_
  refine lv_iconst (v := 1) hx hb dX5_isCall_6 (by decide) ?_
  refine lv_isub hx hb dX5_isCall_7 ?_
  obtain ⟨r1, er1, hF⟩ := bR_some hF
  refine gc_Si (As := [.int p1, .int 0, .int ((σ.2 3) - 1)]) hS9 (tyc_M_in l D ad cA _ σ p1 0 ((σ.2 3) - 1) r1 er1) (va_cwS 3 hts gX5_isCall_X5_in rfl rfl rfl hd_X5_in ⟨by decide, by decide⟩) hK hP hD hS hA hNN rfl hl.1 rfl (Nat.le_of_ble_eq_true rfl) dX5_isCall_8 (fun H locs hP hD hS => ?_)
  obtain ⟨hn_2, hF⟩ := chkb_some hF
  have hn_2 := of_decide_eq_true hn_2
  exact g_iretR hx hb hr (congrArg Value.int hn_2) hlocks hP hK hD hS dX5_isCall_11 hF
set_option maxHeartbeats 4000000 in
set_option maxRecDepth 100000 in
theorem tyc_M_fits (l : Launch) (D : va_G) (ad : Nat → Nat) (cA : Nat → ClassId) (sz : Nat) (σ : tyS) (p1 : Int32) (p2 : Int32) (r : Int32) (hF : tyf_M_fits σ p1 p2 = some r) : gMi l yX5_fits wsX5_fits ({ frames := 0, cells := 0, slots := 0, locals := 0 } : Room) D (wM ad cA) (tM cA) [.ref (ad 0), .int p1, .int p2] sz σ r σ := by
  refine Met.ofW (cc := cX5_fits) (maxL := 3) (ret := (some .boolean)) (by decide) rfl ?_
  intro p e s m args below meth c s₁ B hml hv
  obtain ⟨rfl, hsz, hP, hK, hD0, hNN⟩ := hv
  have hx := B.exec
  have hb := B.bytes
  have hr := B.returns
  have hts := atoms_spec (ws := wsX5_fits) B.pre
  have hown : s.vm.findClass RX5 = some m.cls := findClass_of_methodNamed B.named
  have hlocks := B.notSynchronized
  subst hsz
  have hD := hD0.self (sz := s.heap.size)
  generalize hAe : va_A (wM ad cA σ) s.heap.size = A at hD ⊢
  have hA : ∀ q : Nat, s.heap.size ≤ q → A q := fun q h => by rw [← hAe]; exact Or.inr h
  clear hAe hD0
  have hS : va_S A s.heap s.heap [] := va_S.rf
  have hl := lv_entry ([.ref (ad 0), .int p1, .int p2]) (n := 3) (Nat.le_of_ble_eq_true rfl)
  rw [lg_entry_eq]
  generalize (lg_sl ([.ref (ad 0), .int p1, .int p2]) ++ List.replicate (3 - (lg_sl ([.ref (ad 0), .int p1, .int p2])).length) Slot.unset).toArray = ls at hl ⊢
  have hl : lv_has ls 3 [(0, .ref (ad 0)), (1, .int p1), (2, .int p2)] := hl
  have hw0 := hts (.fieldLink RX5 13 "TrunkYardsModel" "carried" "[I") (List.mem_cons_of_mem _ (List.mem_of_getElem? (i := 0) rfl))
  have hiX5 : ∀ w ∈ wsX50, w ∈ wsX5_fits := fun w h => List.mem_cons_of_mem _ (List.mem_append_right _ h)
  have hw2 := hts (.fieldLink RX5 25 "TrunkYardsModel" "follows" "[I") (List.mem_cons_of_mem _ (List.mem_of_getElem? (i := 1) rfl))
  unfold tyf_M_fits at hF
  refine lv_aload_n hx hb dX5_fits_0 rfl (lv_at hl 0 rfl) ?_
  refine va_get (D := D) (ci := 5) (v := .ref (ad 2)) (C := RX5) (T := TX5) (N := 30) hx hb hts hiX5 hown hK hP 0 (wM_0 ad cA σ) rfl 4 (by decide) hw0 (fun _ h9 => h9) rfl dX5_fits_1 ?_
  refine lv_iload_n hx hb dX5_fits_4 rfl (lv_at hl 1 rfl) ?_
  obtain ⟨hb_1, hF⟩ := chk_some hF
  refine va_iald hx hb hK hP 2 1 (wM_2 ad cA σ) (tM_2 cA) hb_1 dX5_fits_5 ?_
  refine lv_iconst (v := (-1)) hx hb dX5_fits_6 (by decide) ?_
  refine lv_icmp_eq (tgt := 39) hx hb dX5_fits_7 (by decide) (fun c_2 => ?_) (fun c_2 => ?_)
  · have hF := iteT hF c_2
    refine lv_iconst (v := 1) hx hb dX5_fits_39 (by decide) ?_
    refine lv_goto (tgt := 44) hx hb dX5_fits_40 (by decide) ?_
    exact g_iretR hx hb hr rfl hlocks hP hK hD hS dX5_fits_44 hF
  · have hF := iteF hF c_2
    refine lv_aload_n hx hb dX5_fits_10 rfl (lv_at hl 0 rfl) ?_
    refine va_get (D := D) (ci := 5) (v := .ref (ad 2)) (C := RX5) (T := TX5) (N := 30) hx hb hts hiX5 hown hK hP 0 (wM_0 ad cA σ) rfl 4 (by decide) hw0 (fun _ h9 => h9) rfl dX5_fits_11 ?_
    refine lv_iload_n hx hb dX5_fits_14 rfl (lv_at hl 1 rfl) ?_
    obtain ⟨hb_3, hF⟩ := chk_some hF
    refine va_iald hx hb hK hP 2 1 (wM_2 ad cA σ) (tM_2 cA) hb_3 dX5_fits_15 ?_
    refine lv_iload_n hx hb dX5_fits_16 rfl (lv_at hl 2 rfl) ?_
    refine lv_icmp_eq (tgt := 39) hx hb dX5_fits_17 (by decide) (fun c_4 => ?_) (fun c_4 => ?_)
    · have hF := iteT hF c_4
      refine lv_iconst (v := 1) hx hb dX5_fits_39 (by decide) ?_
      refine lv_goto (tgt := 44) hx hb dX5_fits_40 (by decide) ?_
      exact g_iretR hx hb hr rfl hlocks hP hK hD hS dX5_fits_44 hF
    · have hF := iteF hF c_4
      refine lv_aload_n hx hb dX5_fits_20 rfl (lv_at hl 0 rfl) ?_
      refine va_get (D := D) (ci := 5) (v := .ref (ad 6)) (C := RX5) (T := TX5) (N := 30) hx hb hts hiX5 hown hK hP 0 (wM_0 ad cA σ) rfl 8 (by decide) hw2 (fun _ h9 => h9) rfl dX5_fits_21 ?_
      refine lv_aload_n hx hb dX5_fits_24 rfl (lv_at hl 0 rfl) ?_
      refine va_get (D := D) (ci := 5) (v := .ref (ad 2)) (C := RX5) (T := TX5) (N := 30) hx hb hts hiX5 hown hK hP 0 (wM_0 ad cA σ) rfl 4 (by decide) hw0 (fun _ h9 => h9) rfl dX5_fits_25 ?_
      refine lv_iload_n hx hb dX5_fits_28 rfl (lv_at hl 1 rfl) ?_
      obtain ⟨hb_5, hF⟩ := chk_some hF
      refine va_iald hx hb hK hP 2 1 (wM_2 ad cA σ) (tM_2 cA) hb_5 dX5_fits_29 ?_
      obtain ⟨hb_6, hF⟩ := chk_some hF
      refine va_iald hx hb hK hP 6 5 (wM_6 ad cA σ) (tM_6 cA) hb_6 dX5_fits_30 ?_
      refine lv_iload_n hx hb dX5_fits_31 rfl (lv_at hl 2 rfl) ?_
      refine lv_ishr hx hb dX5_fits_32 ?_
      refine lv_iconst (v := 1) hx hb dX5_fits_33 (by decide) ?_
      refine lv_iand hx hb dX5_fits_34 ?_
      refine lv_iconst (v := 1) hx hb dX5_fits_35 (by decide) ?_
      refine lv_icmp_ne (tgt := 43) hx hb dX5_fits_36 (by decide) (fun c_7 => ?_) (fun c_7 => ?_)
      · have hF := iteF hF c_7
        refine lv_iconst (v := 0) hx hb dX5_fits_43 (by decide) ?_
        exact g_iretR hx hb hr rfl hlocks hP hK hD hS dX5_fits_44 hF
      · have hF := iteT hF c_7
        refine lv_iconst (v := 1) hx hb dX5_fits_39 (by decide) ?_
        refine lv_goto (tgt := 44) hx hb dX5_fits_40 (by decide) ?_
        exact g_iretR hx hb hr rfl hlocks hP hK hD hS dX5_fits_44 hF
set_option maxHeartbeats 4000000 in
set_option maxRecDepth 100000 in
theorem tyc_M_finds (l : Launch) (D : va_G) (ad : Nat → Nat) (cA : Nat → ClassId) (sz : Nat) (σ : tyS) (p1 : Int32) (p2 : Int32) (r : Int32) (hF : tyf_M_finds σ p1 p2 = some r) : gMi l yX5_finds wsX5_finds ({ frames := 1, cells := 0, slots := 0, locals := 22 } : Room) D (wM ad cA) (tM cA) [.ref (ad 0), .int p1, .int p2] sz σ r σ := by
  refine Met.ofW (cc := cX5_finds) (maxL := 10) (ret := (some .int)) (by decide) rfl ?_
  intro p e s m args below meth c s₁ B hml hv
  obtain ⟨rfl, hsz, hP, hK, hD0, hNN⟩ := hv
  have hx := B.exec
  have hb := B.bytes
  have hr := B.returns
  have hts := atoms_spec (ws := wsX5_finds) B.pre
  have hown : s.vm.findClass RX5 = some m.cls := findClass_of_methodNamed B.named
  have hlocks := B.notSynchronized
  subst hsz
  have hD := hD0.self (sz := s.heap.size)
  generalize hAe : va_A (wM ad cA σ) s.heap.size = A at hD ⊢
  have hA : ∀ q : Nat, s.heap.size ≤ q → A q := fun q h => by rw [← hAe]; exact Or.inr h
  clear hAe hD0
  have hS : va_S A s.heap s.heap [] := va_S.rf
  have hl := lv_entry ([.ref (ad 0), .int p1, .int p2]) (n := 10) (Nat.le_of_ble_eq_true rfl)
  rw [lg_entry_eq]
  generalize (lg_sl ([.ref (ad 0), .int p1, .int p2]) ++ List.replicate (10 - (lg_sl ([.ref (ad 0), .int p1, .int p2])).length) Slot.unset).toArray = ls at hl ⊢
  have hl : lv_has ls 10 [(0, .ref (ad 0)), (1, .int p1), (2, .int p2)] := hl
  have hS9 : CallFix p m c cX5_finds 10 s _ wsX5_finds RX5 := ⟨hx, hb, hml, hown, hts⟩
  have hw0 := hts (.fieldLink RX5 19 "TrunkYardsModel" "on" "[I") (List.mem_cons_of_mem _ (List.mem_of_getElem? (i := 0) rfl))
  have hiX5 : ∀ w ∈ wsX50, w ∈ wsX5_finds := fun w h => List.mem_cons_of_mem _ (List.mem_append_right _ h)
  have hw2 := hts (.fieldLink RX5 22 "TrunkYardsModel" "track" "[I") (List.mem_cons_of_mem _ (List.mem_of_getElem? (i := 1) rfl))
  unfold tyf_M_finds at hF
  refine lv_iconst (v := (-1)) hx hb dX5_finds_0 (by decide) ?_
  refine lv_istore_n (lv' := [(3, .int (-1)), (0, .ref (ad 0)), (1, .int p1), (2, .int p2)]) hx hb dX5_finds_1 rfl hl (by decide) rfl (fun ls hl => ?_)
  refine lv_bipush (v := 6) hx hb dX5_finds_2 (by decide) ?_
  refine lv_istore (lv' := [(4, .int 6), (3, .int (-1)), (0, .ref (ad 0)), (1, .int p1), (2, .int p2)]) hx hb dX5_finds_4 hl (by decide) rfl (fun ls hl => ?_)
  refine lv_iconst (v := 0) hx hb dX5_finds_6 (by decide) ?_
  refine lv_istore (lv' := [(5, .int 0), (4, .int 6), (3, .int (-1)), (0, .ref (ad 0)), (1, .int p1), (2, .int p2)]) hx hb dX5_finds_7 hl (by decide) rfl (fun ls hl => ?_)
  have lp9 : ∀ (k : Int32 → Int32 → Int32 → Int32 → Int32 → Option Int32), (∀ (x1 : Int32) (x2 : Int32) (x3 : Int32) (x4 : Int32) (x5 : Int32) , k x1 x2 x3 x4 x5 = some r → ∀ (H : Heap) (locs : List Loc) (ls : Array Slot), va_P D vwCl (wM ad cA σ) H → va_D A (wM ad cA σ) → va_S A s.heap H locs → lv_has ls 10 [(0, .ref (ad 0)), (1, .int x1), (2, .int x2), (3, .int x3), (4, .int x4), (5, .int x5)] → W p l e (headSpec wsX5_finds ({ frames := 1, cells := 0, slots := 0, locals := 22 } : Room)).room s m #[.ref (ad 0), .int p1, .int p2] below meth c H locs 0 0 (MQ below (gQi D (wM ad cA) (tM cA) A r σ) #[.ref (ad 0), .int p1, .int p2] s 0 0 A) (F0 m 112 ls [])) → ∀ (n : Nat), ∀ (x1 : Int32) (x2 : Int32) (x3 : Int32) (x4 : Int32) (x5 : Int32) , tyl_M_finds_9 σ k n x1 x2 x3 x4 x5 = some r → ∀ (H : Heap) (locs : List Loc) (ls : Array Slot), va_P D vwCl (wM ad cA σ) H → va_D A (wM ad cA σ) → va_S A s.heap H locs → lv_has ls 10 [(0, .ref (ad 0)), (1, .int x1), (2, .int x2), (3, .int x3), (4, .int x4), (5, .int x5)] → W p l e (headSpec wsX5_finds ({ frames := 1, cells := 0, slots := 0, locals := 22 } : Room)).room s m #[.ref (ad 0), .int p1, .int p2] below meth c H locs 0 0 (MQ below (gQi D (wM ad cA) (tM cA) A r σ) #[.ref (ad 0), .int p1, .int p2] s 0 0 A) (F0 m 9 ls []) := by
    intro k hk n
    induction n with
    | zero =>
      intro x1 x2 x3 x4 x5 hF
      exact absurd hF (fun h => nomatch h)
    | succ n ih =>
      intro x1 x2 x3 x4 x5 hF H locs ls hP hD hS hl
      have hF : tyb_M_finds_9 σ k (tyl_M_finds_9 σ k n) x1 x2 x3 x4 x5 = some r := hF
      unfold tyb_M_finds_9 at hF
      refine lv_iload hx hb dX5_finds_9 (lv_at hl 5 rfl) ?_
      refine lv_iconst (v := 5) hx hb dX5_finds_11 (by decide) ?_
      refine lv_icmp_ge (tgt := 112) hx hb dX5_finds_12 (by decide) (fun c_1 => ?_) (fun c_1 => ?_)
      · have hF := iteT hF c_1
        exact hk  x1 x2 x3 x4 x5 hF _ _ _ hP hD hS (lv_sub hl [0, 1, 2, 3, 4, 5] rfl)
      · have hF := iteF hF c_1
        refine lv_iconst (v := 5) hx hb dX5_finds_15 (by decide) ?_
        refine lv_iload_n hx hb dX5_finds_16 rfl (lv_at hl 1 rfl) ?_
        refine lv_imul hx hb dX5_finds_17 ?_
        refine lv_iload hx hb dX5_finds_18 (lv_at hl 5 rfl) ?_
        refine lv_iadd hx hb dX5_finds_20 ?_
        refine lv_istore (lv' := [(6, .int ((5 * x1) + x5)), (0, .ref (ad 0)), (1, .int x1), (2, .int x2), (3, .int x3), (4, .int x4), (5, .int x5)]) hx hb dX5_finds_21 hl (by decide) rfl (fun ls hl => ?_)
        refine lv_iconst (v := 0) hx hb dX5_finds_23 (by decide) ?_
        refine lv_istore (lv' := [(7, .int 0), (6, .int ((5 * x1) + x5)), (0, .ref (ad 0)), (1, .int x1), (2, .int x2), (3, .int x3), (4, .int x4), (5, .int x5)]) hx hb dX5_finds_24 hl (by decide) rfl (fun ls hl => ?_)
        have lp26 : ∀ (k : Int32 → Int32 → Int32 → Int32 → Int32 → Int32 → Int32 → Option Int32), (∀ (x1 : Int32) (x2 : Int32) (x3 : Int32) (x4 : Int32) (x5 : Int32) (x6 : Int32) (x7 : Int32) , k x1 x2 x3 x4 x5 x6 x7 = some r → ∀ (H : Heap) (locs : List Loc) (ls : Array Slot), va_P D vwCl (wM ad cA σ) H → va_D A (wM ad cA σ) → va_S A s.heap H locs → lv_has ls 10 [(0, .ref (ad 0)), (1, .int x1), (2, .int x2), (3, .int x3), (4, .int x4), (5, .int x5), (6, .int x6), (7, .int x7)] → W p l e (headSpec wsX5_finds ({ frames := 1, cells := 0, slots := 0, locals := 22 } : Room)).room s m #[.ref (ad 0), .int p1, .int p2] below meth c H locs 0 0 (MQ below (gQi D (wM ad cA) (tM cA) A r σ) #[.ref (ad 0), .int p1, .int p2] s 0 0 A) (F0 m 106 ls [])) → ∀ (n : Nat), ∀ (x1 : Int32) (x2 : Int32) (x3 : Int32) (x4 : Int32) (x5 : Int32) (x6 : Int32) (x7 : Int32) , tyl_M_finds_26 σ k n x1 x2 x3 x4 x5 x6 x7 = some r → ∀ (H : Heap) (locs : List Loc) (ls : Array Slot), va_P D vwCl (wM ad cA σ) H → va_D A (wM ad cA σ) → va_S A s.heap H locs → lv_has ls 10 [(0, .ref (ad 0)), (1, .int x1), (2, .int x2), (3, .int x3), (4, .int x4), (5, .int x5), (6, .int x6), (7, .int x7)] → W p l e (headSpec wsX5_finds ({ frames := 1, cells := 0, slots := 0, locals := 22 } : Room)).room s m #[.ref (ad 0), .int p1, .int p2] below meth c H locs 0 0 (MQ below (gQi D (wM ad cA) (tM cA) A r σ) #[.ref (ad 0), .int p1, .int p2] s 0 0 A) (F0 m 26 ls []) := by
          intro k hk n
          induction n with
          | zero =>
            intro x1 x2 x3 x4 x5 x6 x7 hF
            exact absurd hF (fun h => nomatch h)
          | succ n ih =>
            intro x1 x2 x3 x4 x5 x6 x7 hF H locs ls hP hD hS hl
            have hF : tyb_M_finds_26 σ k (tyl_M_finds_26 σ k n) x1 x2 x3 x4 x5 x6 x7 = some r := hF
            unfold tyb_M_finds_26 at hF
            refine lv_iload hx hb dX5_finds_26 (lv_at hl 7 rfl) ?_
            refine lv_aload_n hx hb dX5_finds_28 rfl (lv_at hl 0 rfl) ?_
            refine va_get (D := D) (ci := 5) (v := .ref (ad 4)) (C := RX5) (T := TX5) (N := 30) hx hb hts hiX5 hown hK hP 0 (wM_0 ad cA σ) rfl 6 (by decide) hw0 (fun _ h9 => h9) rfl dX5_finds_29 ?_
            refine lv_iload hx hb dX5_finds_32 (lv_at hl 6 rfl) ?_
            obtain ⟨hb_2, hF⟩ := chk_some hF
            refine va_iald hx hb hK hP 4 3 (wM_4 ad cA σ) (tM_4 cA) hb_2 dX5_finds_34 ?_
            refine lv_icmp_ge (tgt := 106) hx hb dX5_finds_35 (by decide) (fun c_3 => ?_) (fun c_3 => ?_)
            · have hF := iteT hF c_3
              exact hk  x1 x2 x3 x4 x5 x6 x7 hF _ _ _ hP hD hS (lv_sub hl [0, 1, 2, 3, 4, 5, 6, 7] rfl)
            · have hF := iteF hF c_3
              refine lv_aload_n hx hb dX5_finds_38 rfl (lv_at hl 0 rfl) ?_
              refine va_get (D := D) (ci := 5) (v := .ref (ad 5)) (C := RX5) (T := TX5) (N := 30) hx hb hts hiX5 hown hK hP 0 (wM_0 ad cA σ) rfl 7 (by decide) hw2 (fun _ h9 => h9) rfl dX5_finds_39 ?_
              refine lv_bipush (v := 6) hx hb dX5_finds_42 (by decide) ?_
              refine lv_iload hx hb dX5_finds_44 (lv_at hl 6 rfl) ?_
              refine lv_imul hx hb dX5_finds_46 ?_
              refine lv_iload hx hb dX5_finds_47 (lv_at hl 7 rfl) ?_
              refine lv_iadd hx hb dX5_finds_49 ?_
              obtain ⟨hb_4, hF⟩ := chk_some hF
              refine va_iald hx hb hK hP 5 4 (wM_5 ad cA σ) (tM_5 cA) hb_4 dX5_finds_50 ?_
              refine lv_istore (lv' := [(8, .int (σ.1 5 (((6 * x6) + x7)).toNatClampNeg)), (0, .ref (ad 0)), (1, .int x1), (2, .int x2), (3, .int x3), (4, .int x4), (5, .int x5), (6, .int x6), (7, .int x7)]) hx hb dX5_finds_51 hl (by decide) rfl (fun ls hl => ?_)
              refine lv_aload_n hx hb dX5_finds_53 rfl (lv_at hl 1 rfl) ?_
              refine va_get (D := D) (ci := 5) (v := .ref (ad 4)) (C := RX5) (T := TX5) (N := 30) hx hb hts hiX5 hown hK hP 0 (wM_0 ad cA σ) rfl 6 (by decide) hw0 (fun _ h9 => h9) rfl dX5_finds_54 ?_
              refine lv_iload hx hb dX5_finds_57 (lv_at hl 7 rfl) ?_
              obtain ⟨hb_5, hF⟩ := chk_some hF
              refine va_iald hx hb hK hP 4 3 (wM_4 ad cA σ) (tM_4 cA) hb_5 dX5_finds_59 ?_
              refine lv_iconst (v := 1) hx hb dX5_finds_60 (by decide) ?_
              refine lv_isub hx hb dX5_finds_61 ?_
              refine lv_iload hx hb dX5_finds_62 (lv_at hl 8 rfl) ?_
              refine lv_isub hx hb dX5_finds_64 ?_
              refine lv_istore (lv' := [(9, .int (((σ.1 4 (x6).toNatClampNeg) - 1) - x7)), (8, .int (σ.1 5 (((6 * x6) + x7)).toNatClampNeg)), (0, .ref (ad 0)), (1, .int x1), (2, .int x2), (3, .int x3), (4, .int x4), (5, .int x5), (6, .int x6), (7, .int x7)]) hx hb dX5_finds_65 hl (by decide) rfl (fun ls hl => ?_)
              refine lv_aload_n hx hb dX5_finds_67 rfl (lv_at hl 2 rfl) ?_
              refine lv_iload hx hb dX5_finds_68 (lv_at hl 1 rfl) ?_
              obtain ⟨r6, er6, hF⟩ := bR_some hF
              refine gc_Vi (As := [.int (σ.1 5 (((6 * x6) + x7)).toNatClampNeg)]) hS9 (tyc_M_isPromised l D ad cA _ σ (σ.1 5 (((6 * x6) + x7)).toNatClampNeg) r6 er6) (cwV 1 hts gX5_finds_X5_isPromised rfl rfl rfl hd_X5_isPromised ⟨by decide, by decide⟩) hK hP hD hS hA hNN (ci := 5) (q0 := 0) (N := 30) rfl (wM_0 ad cA σ) rfl hl.1 rfl (Nat.le_of_ble_eq_true rfl) dX5_finds_70 (fun H locs hP hD hS => ?_)
              refine lv_if_ne (tgt := 100) hx hb dX5_finds_73 (by decide) (fun c_7 => ?_) (fun c_7 => ?_)
              · have hF := iteF hF c_7
                refine lv_iinc (v := (x7 + 1)) (lv' := [(7, .int (x7 + 1)), (9, .int (((σ.1 4 (x6).toNatClampNeg) - 1) - x7)), (8, .int (σ.1 5 (((6 * x6) + x7)).toNatClampNeg)), (0, .ref (ad 0)), (1, .int x1), (2, .int x2), (3, .int x3), (4, .int x4), (5, .int x5), (6, .int x6)]) hx hb dX5_finds_100 hl (k := 9) rfl rfl (by decide) rfl (fun ls hl => ?_)
                refine lv_goto (tgt := 26) hx hb dX5_finds_103 (by decide) ?_
                exact ih  x1 x2 x3 x4 x5 x6 (x7 + 1) hF _ _ _ hP hD hS (lv_sub hl [3, 4, 5, 6, 7, 8, 9, 0] rfl)
              · have hF := iteT hF c_7
                refine lv_aload_n hx hb dX5_finds_76 rfl (lv_at hl 2 rfl) ?_
                refine lv_iload hx hb dX5_finds_77 (lv_at hl 1 rfl) ?_
                refine lv_iload_n hx hb dX5_finds_79 rfl (lv_at hl 4 rfl) ?_
                obtain ⟨r8, er8, hF⟩ := bR_some hF
                refine gc_Vi (As := [.int (σ.1 5 (((6 * x6) + x7)).toNatClampNeg), .int x2]) hS9 (tyc_M_fits l D ad cA _ σ (σ.1 5 (((6 * x6) + x7)).toNatClampNeg) x2 r8 er8) (cwV 2 hts gX5_finds_X5_fits rfl rfl rfl hd_X5_fits ⟨by decide, by decide⟩) hK hP hD hS hA hNN (ci := 5) (q0 := 0) (N := 30) rfl (wM_0 ad cA σ) rfl hl.1 rfl (Nat.le_of_ble_eq_true rfl) dX5_finds_80 (fun H locs hP hD hS => ?_)
                refine lv_if_eq (tgt := 100) hx hb dX5_finds_83 (by decide) (fun c_9 => ?_) (fun c_9 => ?_)
                · have hF := iteT hF c_9
                  refine lv_iinc (v := (x7 + 1)) (lv' := [(7, .int (x7 + 1)), (9, .int (((σ.1 4 (x6).toNatClampNeg) - 1) - x7)), (8, .int (σ.1 5 (((6 * x6) + x7)).toNatClampNeg)), (0, .ref (ad 0)), (1, .int x1), (2, .int x2), (3, .int x3), (4, .int x4), (5, .int x5), (6, .int x6)]) hx hb dX5_finds_100 hl (k := 9) rfl rfl (by decide) rfl (fun ls hl => ?_)
                  refine lv_goto (tgt := 26) hx hb dX5_finds_103 (by decide) ?_
                  exact ih  x1 x2 x3 x4 x5 x6 (x7 + 1) hF _ _ _ hP hD hS (lv_sub hl [3, 4, 5, 6, 7, 8, 9, 0] rfl)
                · have hF := iteF hF c_9
                  refine lv_iload hx hb dX5_finds_86 (lv_at hl 0 rfl) ?_
                  refine lv_iload hx hb dX5_finds_88 (lv_at hl 6 rfl) ?_
                  refine lv_icmp_ge (tgt := 100) hx hb dX5_finds_90 (by decide) (fun c_10 => ?_) (fun c_10 => ?_)
                  · have hF := iteT hF c_10
                    refine lv_iinc (v := (x7 + 1)) (lv' := [(7, .int (x7 + 1)), (9, .int (((σ.1 4 (x6).toNatClampNeg) - 1) - x7)), (8, .int (σ.1 5 (((6 * x6) + x7)).toNatClampNeg)), (0, .ref (ad 0)), (1, .int x1), (2, .int x2), (3, .int x3), (4, .int x4), (5, .int x5), (6, .int x6)]) hx hb dX5_finds_100 hl (k := 9) rfl rfl (by decide) rfl (fun ls hl => ?_)
                    refine lv_goto (tgt := 26) hx hb dX5_finds_103 (by decide) ?_
                    exact ih  x1 x2 x3 x4 x5 x6 (x7 + 1) hF _ _ _ hP hD hS (lv_sub hl [3, 4, 5, 6, 7, 8, 9, 0] rfl)
                  · have hF := iteF hF c_10
                    refine lv_iload hx hb dX5_finds_93 (lv_at hl 1 rfl) ?_
                    refine lv_istore_n (lv' := [(3, .int (σ.1 5 (((6 * x6) + x7)).toNatClampNeg)), (9, .int (((σ.1 4 (x6).toNatClampNeg) - 1) - x7)), (8, .int (σ.1 5 (((6 * x6) + x7)).toNatClampNeg)), (0, .ref (ad 0)), (1, .int x1), (2, .int x2), (4, .int x4), (5, .int x5), (6, .int x6), (7, .int x7)]) hx hb dX5_finds_95 rfl hl (by decide) rfl (fun ls hl => ?_)
                    refine lv_iload hx hb dX5_finds_96 (lv_at hl 1 rfl) ?_
                    refine lv_istore (lv' := [(4, .int (((σ.1 4 (x6).toNatClampNeg) - 1) - x7)), (3, .int (σ.1 5 (((6 * x6) + x7)).toNatClampNeg)), (9, .int (((σ.1 4 (x6).toNatClampNeg) - 1) - x7)), (8, .int (σ.1 5 (((6 * x6) + x7)).toNatClampNeg)), (0, .ref (ad 0)), (1, .int x1), (2, .int x2), (5, .int x5), (6, .int x6), (7, .int x7)]) hx hb dX5_finds_98 hl (by decide) rfl (fun ls hl => ?_)
                    refine lv_iinc (v := (x7 + 1)) (lv' := [(7, .int (x7 + 1)), (4, .int (((σ.1 4 (x6).toNatClampNeg) - 1) - x7)), (3, .int (σ.1 5 (((6 * x6) + x7)).toNatClampNeg)), (9, .int (((σ.1 4 (x6).toNatClampNeg) - 1) - x7)), (8, .int (σ.1 5 (((6 * x6) + x7)).toNatClampNeg)), (0, .ref (ad 0)), (1, .int x1), (2, .int x2), (5, .int x5), (6, .int x6)]) hx hb dX5_finds_100 hl (k := 9) rfl rfl (by decide) rfl (fun ls hl => ?_)
                    refine lv_goto (tgt := 26) hx hb dX5_finds_103 (by decide) ?_
                    exact ih  x1 x2 (σ.1 5 (((6 * x6) + x7)).toNatClampNeg) (((σ.1 4 (x6).toNatClampNeg) - 1) - x7) x5 x6 (x7 + 1) hF _ _ _ hP hD hS (lv_sub hl [5, 6, 7, 2, 1, 8, 9, 0] rfl)
        refine lp26 _ ?_ 64  x1 x2 x3 x4 x5 ((5 * x1) + x5) 0 hF _ _ _ hP hD hS (lv_sub hl [2, 3, 4, 5, 6, 7, 1, 0] rfl)
        intro x1 x2 x3 x4 x5 x6 x7 hF H locs ls hP hD hS hl
        refine lv_iinc (v := (x5 + 1)) (lv' := [(5, .int (x5 + 1)), (0, .ref (ad 0)), (1, .int x1), (2, .int x2), (3, .int x3), (4, .int x4), (6, .int x6), (7, .int x7)]) hx hb dX5_finds_106 hl (k := 5) rfl rfl (by decide) rfl (fun ls hl => ?_)
        refine lv_goto (tgt := 9) hx hb dX5_finds_109 (by decide) ?_
        exact ih  x1 x2 x3 x4 (x5 + 1) hF _ _ _ hP hD hS (lv_sub hl [1, 2, 3, 4, 5, 0] rfl)
  refine lp9 _ ?_ 64  p1 p2 (-1) 6 0 hF _ _ _ hP hD hS (lv_sub hl [3, 4, 5, 2, 1, 0] rfl)
  intro x1 x2 x3 x4 x5 hF H locs ls hP hD hS hl
  refine lv_iload_n hx hb dX5_finds_112 rfl (lv_at hl 3 rfl) ?_
  exact g_iretR hx hb hr rfl hlocks hP hK hD hS dX5_finds_113 hF
set_option maxHeartbeats 4000000 in
set_option maxRecDepth 100000 in
theorem tyc_M_adds (l : Launch) (D : va_G) (ad : Nat → Nat) (cA : Nat → ClassId) (sz : Nat) (σ : tyS) (p1 : Int32) (p2 : Int32) (τ : tyS) (hF : tyf_M_adds σ p1 p2 = some τ) : gMv l yX5_adds wsX5_adds ({ frames := 0, cells := 0, slots := 0, locals := 0 } : Room) D (wM ad cA) (tM cA) [.ref (ad 0), .int p1, .int p2] sz σ τ := by
  refine Met.ofW (cc := cX5_adds) (maxL := 3) (ret := none) (by decide) rfl ?_
  intro p e s m args below meth c s₁ B hml hv
  obtain ⟨rfl, hsz, hP, hK, hD0, hNN⟩ := hv
  have hx := B.exec
  have hb := B.bytes
  have hr := B.returns
  have hts := atoms_spec (ws := wsX5_adds) B.pre
  have hown : s.vm.findClass RX5 = some m.cls := findClass_of_methodNamed B.named
  have hlocks := B.notSynchronized
  subst hsz
  have hD := hD0.self (sz := s.heap.size)
  generalize hAe : va_A (wM ad cA σ) s.heap.size = A at hD ⊢
  have hA : ∀ q : Nat, s.heap.size ≤ q → A q := fun q h => by rw [← hAe]; exact Or.inr h
  clear hAe hD0
  have hS : va_S A s.heap s.heap [] := va_S.rf
  have hl := lv_entry ([.ref (ad 0), .int p1, .int p2]) (n := 3) (Nat.le_of_ble_eq_true rfl)
  rw [lg_entry_eq]
  generalize (lg_sl ([.ref (ad 0), .int p1, .int p2]) ++ List.replicate (3 - (lg_sl ([.ref (ad 0), .int p1, .int p2])).length) Slot.unset).toArray = ls at hl ⊢
  have hl : lv_has ls 3 [(0, .ref (ad 0)), (1, .int p1), (2, .int p2)] := hl
  have hw0 := hts (.fieldLink RX5 65 "TrunkYardsModel" "wagonOf" "[I") (List.mem_cons_of_mem _ (List.mem_of_getElem? (i := 0) rfl))
  have hiX5 : ∀ w ∈ wsX50, w ∈ wsX5_adds := fun w h => List.mem_cons_of_mem _ (List.mem_append_right _ h)
  have hw2 := hts (.fieldLink RX5 62 "TrunkYardsModel" "many" "[I") (List.mem_cons_of_mem _ (List.mem_of_getElem? (i := 1) rfl))
  have hw3 := hts (.fieldLink RX5 16 "TrunkYardsModel" "booking" "[I") (List.mem_cons_of_mem _ (List.mem_of_getElem? (i := 2) rfl))
  unfold tyf_M_adds at hF
  refine lv_aload_n hx hb dX5_adds_0 rfl (lv_at hl 0 rfl) ?_
  refine va_get (D := D) (ci := 5) (v := .ref (ad 19)) (C := RX5) (T := TX5) (N := 30) hx hb hts hiX5 hown hK hP 0 (wM_0 ad cA σ) rfl 24 (by decide) hw0 (fun _ h9 => h9) rfl dX5_adds_1 ?_
  refine lv_bipush (v := 30) hx hb dX5_adds_4 (by decide) ?_
  refine lv_iload_n hx hb dX5_adds_6 rfl (lv_at hl 1 rfl) ?_
  refine lv_imul hx hb dX5_adds_7 ?_
  refine lv_aload_n hx hb dX5_adds_8 rfl (lv_at hl 0 rfl) ?_
  refine va_get (D := D) (ci := 5) (v := .ref (ad 18)) (C := RX5) (T := TX5) (N := 30) hx hb hts hiX5 hown hK hP 0 (wM_0 ad cA σ) rfl 23 (by decide) hw2 (fun _ h9 => h9) rfl dX5_adds_9 ?_
  refine lv_iload_n hx hb dX5_adds_12 rfl (lv_at hl 1 rfl) ?_
  obtain ⟨hb_1, hF⟩ := chk_some hF
  refine va_iald hx hb hK hP 18 17 (wM_18 ad cA σ) (tM_18 cA) hb_1 dX5_adds_13 ?_
  refine lv_iadd hx hb dX5_adds_14 ?_
  refine lv_iload_n hx hb dX5_adds_15 rfl (lv_at hl 2 rfl) ?_
  obtain ⟨hb_2, hF⟩ := chk_some hF
  obtain ⟨σ3, e3, hF⟩ := stp_some hF
  refine gw_iast hx hb hK hP hD hS (wM_19 ad cA σ) (tM_19 cA) (wMs_19 ad cA σ) hb_2 dX5_adds_16 e3 (fun H locs hP hD hS => ?_)
  refine lv_aload_n hx hb dX5_adds_17 rfl (lv_at hl 0 rfl) ?_
  refine va_get (D := D) (ci := 5) (v := .ref (ad 18)) (C := RX5) (T := TX5) (N := 30) hx hb hts hiX5 hown hK hP 0 (wM_0 ad cA σ3) rfl 23 (by decide) hw2 (fun _ h9 => h9) rfl dX5_adds_18 ?_
  refine lv_iload_n hx hb dX5_adds_21 rfl (lv_at hl 1 rfl) ?_
  refine lv_dup2_11 hx hb dX5_adds_22 rfl rfl ?_
  obtain ⟨hb_4, hF⟩ := chk_some hF
  refine va_iald hx hb hK hP 18 17 (wM_18 ad cA σ3) (tM_18 cA) hb_4 dX5_adds_23 ?_
  refine lv_iconst (v := 1) hx hb dX5_adds_24 (by decide) ?_
  refine lv_iadd hx hb dX5_adds_25 ?_
  obtain ⟨hb_5, hF⟩ := chk_some hF
  obtain ⟨σ6, e6, hF⟩ := stp_some hF
  refine gw_iast hx hb hK hP hD hS (wM_18 ad cA σ3) (tM_18 cA) (wMs_18 ad cA σ3) hb_5 dX5_adds_26 e6 (fun H locs hP hD hS => ?_)
  refine lv_aload_n hx hb dX5_adds_27 rfl (lv_at hl 0 rfl) ?_
  refine va_get (D := D) (ci := 5) (v := .ref (ad 3)) (C := RX5) (T := TX5) (N := 30) hx hb hts hiX5 hown hK hP 0 (wM_0 ad cA σ6) rfl 5 (by decide) hw3 (fun _ h9 => h9) rfl dX5_adds_28 ?_
  refine lv_iload_n hx hb dX5_adds_31 rfl (lv_at hl 2 rfl) ?_
  refine lv_iload_n hx hb dX5_adds_32 rfl (lv_at hl 1 rfl) ?_
  obtain ⟨hb_7, hF⟩ := chk_some hF
  obtain ⟨σ8, e8, hF⟩ := stp_some hF
  refine gw_iast hx hb hK hP hD hS (wM_3 ad cA σ6) (tM_3 cA) (wMs_3 ad cA σ6) hb_7 dX5_adds_33 e8 (fun H locs hP hD hS => ?_)
  exact g_vretN hx hb hr hlocks hP hK hD hS dX5_adds_34 hF
