set_option maxHeartbeats 4000000 in
set_option maxRecDepth 100000 in
theorem tyc_M_ask (l : Launch) (D : va_G) (ad : Nat → Nat) (cA : Nat → ClassId) (sz : Nat) (σ : tyS) (p1 : Int32) (p2 : Int32) (r : Int32) (τ : tyS) (hF : tyf_M_ask σ p1 p2 = some (r, τ)) : gMi l yX5_ask wsX5_ask ({ frames := 2, cells := 0, slots := 0, locals := 51 } : Room) D (wM ad cA) (tM cA) [.ref (ad 0), .int p1, .int p2] sz σ r τ := by
  refine Met.ofW (cc := cX5_ask) (maxL := 4) (ret := (some .int)) (by decide) rfl ?_
  intro p e s m args below meth c s₁ B hml hv
  obtain ⟨rfl, hsz, hP, hK, hD0, hNN⟩ := hv
  have hx := B.exec
  have hb := B.bytes
  have hr := B.returns
  have hts := atoms_spec (ws := wsX5_ask) B.pre
  have hown : s.vm.findClass RX5 = some m.cls := findClass_of_methodNamed B.named
  have hlocks := B.notSynchronized
  subst hsz
  have hD := hD0.self (sz := s.heap.size)
  generalize hAe : va_A (wM ad cA σ) s.heap.size = A at hD ⊢
  have hA : ∀ q : Nat, s.heap.size ≤ q → A q := fun q h => by rw [← hAe]; exact Or.inr h
  clear hAe hD0
  have hS : va_S A s.heap s.heap [] := va_S.rf
  have hl := lv_entry ([.ref (ad 0), .int p1, .int p2]) (n := 4) (Nat.le_of_ble_eq_true rfl)
  rw [lg_entry_eq]
  generalize (lg_sl ([.ref (ad 0), .int p1, .int p2]) ++ List.replicate (4 - (lg_sl ([.ref (ad 0), .int p1, .int p2])).length) Slot.unset).toArray = ls at hl ⊢
  have hl : lv_has ls 4 [(0, .ref (ad 0)), (1, .int p1), (2, .int p2)] := hl
  have hS9 : CallFix p m c cX5_ask 4 s _ wsX5_ask RX5 := ⟨hx, hb, hml, hown, hts⟩
  have hw0 := hts (.fieldLink RX5 40 "TrunkYardsModel" "goesOn" "[Z") (List.mem_cons_of_mem _ (List.mem_of_getElem? (i := 0) rfl))
  have hiX5 : ∀ w ∈ wsX50, w ∈ wsX5_ask := fun w h => List.mem_cons_of_mem _ (List.mem_append_right _ h)
  have hw2 := hts (.fieldLink RX5 80 "TrunkYardsModel" "thrown" "I") (List.mem_cons_of_mem _ (List.mem_of_getElem? (i := 1) rfl))
  have hw3 := hts (.fieldLink RX5 44 "TrunkYardsModel" "open" "[I") (List.mem_cons_of_mem _ (List.mem_of_getElem? (i := 2) rfl))
  have hw4 := hts (.fieldLink RX5 50 "TrunkYardsModel" "grain" "[I") (List.mem_cons_of_mem _ (List.mem_of_getElem? (i := 4) rfl))
  have hw5 := hts (.fieldLink RX5 37 "TrunkYardsModel" "yard" "[I") (List.mem_cons_of_mem _ (List.mem_of_getElem? (i := 5) rfl))
  have hw6 := hts (.fieldLink RX5 47 "TrunkYardsModel" "state" "[I") (List.mem_cons_of_mem _ (List.mem_of_getElem? (i := 6) rfl))
  have hw7 := hts (.fieldLink RX5 122 "TrunkYardsModel" "bookings" "I") (List.mem_cons_of_mem _ (List.mem_of_getElem? (i := 3) rfl))
  have hw8 := hts (.fieldLink RX5 53 "TrunkYardsModel" "owner" "[I") (List.mem_cons_of_mem _ (List.mem_of_getElem? (i := 7) rfl))
  have hw9 := hts (.fieldLink RX5 34 "TrunkYardsModel" "customer" "[I") (List.mem_cons_of_mem _ (List.mem_of_getElem? (i := 8) rfl))
  have hw10 := hts (.fieldLink RX5 56 "TrunkYardsModel" "booked" "[I") (List.mem_cons_of_mem _ (List.mem_of_getElem? (i := 9) rfl))
  have hw11 := hts (.fieldLink RX5 62 "TrunkYardsModel" "many" "[I") (List.mem_cons_of_mem _ (List.mem_of_getElem? (i := 10) rfl))
  unfold tyf_M_ask at hF
  refine lv_aload_n hx hb dX5_ask_0 rfl (lv_at hl 0 rfl) ?_
  refine lv_aload_n hx hb dX5_ask_1 rfl (lv_at hl 0 rfl) ?_
  refine lv_iload_n hx hb dX5_ask_2 rfl (lv_at hl 1 rfl) ?_
  obtain ⟨r1, er1, hF⟩ := bR_some hF
  refine gc_Vi (As := [.int p1]) hS9 (tyc_M_isCall l D ad cA _ σ p1 r1 er1) (cwV 1 hts gX5_ask_X5_isCall rfl rfl rfl hd_X5_isCall ⟨by decide, by decide⟩) hK hP hD hS hA hNN (ci := 5) (q0 := 0) (N := 30) rfl (wM_0 ad cA σ) rfl hl.1 rfl (Nat.le_of_ble_eq_true rfl) dX5_ask_3 (fun H locs hP hD hS => ?_)
  refine lv_if_ne (tgt := 13) hx hb dX5_ask_6 (by decide) (fun c_2 => ?_) (fun c_2 => ?_)
  · have hF := iteF hF c_2
    refine lv_iload_n hx hb dX5_ask_13 rfl (lv_at hl 2 rfl) ?_
    obtain ⟨r3, er3, hF⟩ := bR_some hF
    refine gc_Si (As := [.int p2]) hS9 (tyc_M_isGrain l D ad cA _ σ p2 r3 er3) (va_cwS 1 hts gX5_ask_X5_isGrain rfl rfl rfl hd_X5_isGrain ⟨by decide, by decide⟩) hK hP hD hS hA hNN rfl hl.1 rfl (Nat.le_of_ble_eq_true rfl) dX5_ask_14 (fun H locs hP hD hS => ?_)
    refine lv_if_ne (tgt := 24) hx hb dX5_ask_17 (by decide) (fun c_4 => ?_) (fun c_4 => ?_)
    · have hF := iteF hF c_4
      refine lv_aload_n hx hb dX5_ask_24 rfl (lv_at hl 0 rfl) ?_
      refine va_get (D := D) (ci := 5) (v := .ref (ad 11)) (C := RX5) (T := TX5) (N := 30) hx hb hts hiX5 hown hK hP 0 (wM_0 ad cA σ) rfl 15 (by decide) hw0 (fun _ h9 => h9) rfl dX5_ask_25 ?_
      refine lv_iload_n hx hb dX5_ask_28 rfl (lv_at hl 1 rfl) ?_
      obtain ⟨hb_5, hF⟩ := chk_some hF
      refine va_zald hx hb hK hP 11 10 (wM_11 ad cA σ) (tM_11 cA) hb_5 dX5_ask_29 ?_
      refine lv_if_ne (tgt := 37) hx hb dX5_ask_30 (by decide) (fun c_6 => ?_) (fun c_6 => ?_)
      · have hF := iteF hF c_6
        refine lv_iconst (v := 0) hx hb dX5_ask_37 (by decide) ?_
        obtain ⟨σ7, e7, hF⟩ := stp_some hF
        refine gw_put hx hb hts hiX5 tyX5 tyX5_ok nmX5 hown hK hP hD hS 0 (wM_0 ad cA σ) rfl 0 (by decide) hw2 (fun _ h9 => h9) rfl (by decide +kernel) (show 0 < 30 from by decide) (wMv_0 ad cA σ _) dX5_ask_38 e7 (fun H locs hP hD hS => ?_)
        refine lv_aload_n hx hb dX5_ask_41 rfl (lv_at hl 0 rfl) ?_
        refine va_get (D := D) (ci := 5) (v := .int (σ7.2 0)) (C := RX5) (T := TX5) (N := 30) hx hb hts hiX5 hown hK hP 0 (wM_0 ad cA σ7) rfl 0 (by decide) hw2 (fun _ h9 => h9) rfl dX5_ask_42 ?_
        refine lv_as (y := 0) (by rw [e7]; rfl) ?_
        refine lv_if_ne (tgt := 109) hx hb dX5_ask_45 (by decide) (fun h9 => absurd h9 (by decide)) (fun _ => ?_)
        refine lv_aload_n hx hb dX5_ask_48 rfl (lv_at hl 0 rfl) ?_
        refine va_get (D := D) (ci := 5) (v := .ref (ad 12)) (C := RX5) (T := TX5) (N := 30) hx hb hts hiX5 hown hK hP 0 (wM_0 ad cA σ7) rfl 16 (by decide) hw3 (fun _ h9 => h9) rfl dX5_ask_49 ?_
        refine lv_iload_n hx hb dX5_ask_52 rfl (lv_at hl 1 rfl) ?_
        obtain ⟨hb_8, hF⟩ := chk_some hF
        refine va_iald hx hb hK hP 12 11 (wM_12 ad cA σ7) (tM_12 cA) hb_8 dX5_ask_53 ?_
        refine lv_iconst (v := (-1)) hx hb dX5_ask_54 (by decide) ?_
        refine lv_icmp_ne (tgt := 75) hx hb dX5_ask_55 (by decide) (fun c_9 => ?_) (fun c_9 => ?_)
        · have hF := iteF hF c_9
          refine lv_aload_n hx hb dX5_ask_75 rfl (lv_at hl 0 rfl) ?_
          refine va_get (D := D) (ci := 5) (v := .ref (ad 14)) (C := RX5) (T := TX5) (N := 30) hx hb hts hiX5 hown hK hP 0 (wM_0 ad cA σ7) rfl 19 (by decide) hw4 (fun _ h9 => h9) rfl dX5_ask_76 ?_
          refine lv_aload_n hx hb dX5_ask_79 rfl (lv_at hl 0 rfl) ?_
          refine va_get (D := D) (ci := 5) (v := .ref (ad 12)) (C := RX5) (T := TX5) (N := 30) hx hb hts hiX5 hown hK hP 0 (wM_0 ad cA σ7) rfl 16 (by decide) hw3 (fun _ h9 => h9) rfl dX5_ask_80 ?_
          refine lv_iload_n hx hb dX5_ask_83 rfl (lv_at hl 1 rfl) ?_
          obtain ⟨hb_10, hF⟩ := chk_some hF
          refine va_iald hx hb hK hP 12 11 (wM_12 ad cA σ7) (tM_12 cA) hb_10 dX5_ask_84 ?_
          obtain ⟨hb_11, hF⟩ := chk_some hF
          refine va_iald hx hb hK hP 14 13 (wM_14 ad cA σ7) (tM_14 cA) hb_11 dX5_ask_85 ?_
          refine lv_iload_n hx hb dX5_ask_86 rfl (lv_at hl 2 rfl) ?_
          refine lv_icmp_ne (tgt := 94) hx hb dX5_ask_87 (by decide) (fun c_12 => ?_) (fun c_12 => ?_)
          · have hF := iteF hF c_12
            refine lv_iconst (v := 0) hx hb dX5_ask_94 (by decide) ?_
            refine lv_istore_n (lv' := [(3, .int 0), (0, .ref (ad 0)), (1, .int p1), (2, .int p2)]) hx hb dX5_ask_95 rfl hl (by decide) rfl (fun ls hl => ?_)
            refine lv_aload_n hx hb dX5_ask_96 rfl (lv_at hl 1 rfl) ?_
            refine lv_iload_n hx hb dX5_ask_97 rfl (lv_at hl 0 rfl) ?_
            refine lv_if_eq (tgt := 105) hx hb dX5_ask_98 (by decide) (fun _ => ?_) (fun h9 => absurd h9 (by decide))
            refine lv_iconst (v := 3) hx hb dX5_ask_105 (by decide) ?_
            obtain ⟨σ13, e13, hF⟩ := stp_some hF
            refine gw_put hx hb hts hiX5 tyX5 tyX5_ok nmX5 hown hK hP hD hS 0 (wM_0 ad cA σ7) rfl 0 (by decide) hw2 (fun _ h9 => h9) rfl (by decide +kernel) (show 0 < 30 from by decide) (wMv_0 ad cA σ7 _) dX5_ask_106 e13 (fun H locs hP hD hS => ?_)
            refine lv_aload_n hx hb dX5_ask_109 rfl (lv_at hl 1 rfl) ?_
            refine va_get (D := D) (ci := 5) (v := .int (σ13.2 0)) (C := RX5) (T := TX5) (N := 30) hx hb hts hiX5 hown hK hP 0 (wM_0 ad cA σ13) rfl 0 (by decide) hw2 (fun _ h9 => h9) rfl dX5_ask_110 ?_
            refine lv_as (y := 3) (by rw [e13]; rfl) ?_
            refine lv_if_le (tgt := 118) hx hb dX5_ask_113 (by decide) (fun h9 => absurd h9 (by decide)) (fun _ => ?_)
            refine lv_iconst (v := 0) hx hb dX5_ask_116 (by decide) ?_
            exact g_iretN hx hb hr rfl hlocks hP hK hD hS dX5_ask_117 hF
          · have hF := iteT hF c_12
            refine lv_iconst (v := 1) hx hb dX5_ask_90 (by decide) ?_
            refine lv_goto (tgt := 95) hx hb dX5_ask_91 (by decide) ?_
            refine lv_istore_n (lv' := [(3, .int 1), (0, .ref (ad 0)), (1, .int p1), (2, .int p2)]) hx hb dX5_ask_95 rfl hl (by decide) rfl (fun ls hl => ?_)
            refine lv_aload_n hx hb dX5_ask_96 rfl (lv_at hl 1 rfl) ?_
            refine lv_iload_n hx hb dX5_ask_97 rfl (lv_at hl 0 rfl) ?_
            refine lv_if_eq (tgt := 105) hx hb dX5_ask_98 (by decide) (fun h9 => absurd h9 (by decide)) (fun _ => ?_)
            refine lv_iconst (v := 0) hx hb dX5_ask_101 (by decide) ?_
            refine lv_goto (tgt := 106) hx hb dX5_ask_102 (by decide) ?_
            obtain ⟨σ14, e14, hF⟩ := stp_some hF
            refine gw_put hx hb hts hiX5 tyX5 tyX5_ok nmX5 hown hK hP hD hS 0 (wM_0 ad cA σ7) rfl 0 (by decide) hw2 (fun _ h9 => h9) rfl (by decide +kernel) (show 0 < 30 from by decide) (wMv_0 ad cA σ7 _) dX5_ask_106 e14 (fun H locs hP hD hS => ?_)
            refine lv_aload_n hx hb dX5_ask_109 rfl (lv_at hl 1 rfl) ?_
            refine va_get (D := D) (ci := 5) (v := .int (σ14.2 0)) (C := RX5) (T := TX5) (N := 30) hx hb hts hiX5 hown hK hP 0 (wM_0 ad cA σ14) rfl 0 (by decide) hw2 (fun _ h9 => h9) rfl dX5_ask_110 ?_
            refine lv_as (y := 0) (by rw [e14]; rfl) ?_
            refine lv_if_le (tgt := 118) hx hb dX5_ask_113 (by decide) (fun _ => ?_) (fun h9 => absurd h9 (by decide))
            refine lv_aload_n hx hb dX5_ask_118 rfl (lv_at hl 1 rfl) ?_
            refine lv_aload_n hx hb dX5_ask_119 rfl (lv_at hl 1 rfl) ?_
            refine va_get (D := D) (ci := 5) (v := .ref (ad 10)) (C := RX5) (T := TX5) (N := 30) hx hb hts hiX5 hown hK hP 0 (wM_0 ad cA σ14) rfl 14 (by decide) hw5 (fun _ h9 => h9) rfl dX5_ask_120 ?_
            refine lv_iload_n hx hb dX5_ask_123 rfl (lv_at hl 2 rfl) ?_
            obtain ⟨hb_15, hF⟩ := chk_some hF
            refine va_iald hx hb hK hP 10 9 (wM_10 ad cA σ14) (tM_10 cA) hb_15 dX5_ask_124 ?_
            refine lv_iload_n hx hb dX5_ask_125 rfl (lv_at hl 3 rfl) ?_
            obtain ⟨r16, er16, hF⟩ := bR_some hF
            refine gc_Vi (As := [.int (σ14.1 10 (p1).toNatClampNeg), .int p2]) hS9 (tyc_M_finds l D ad cA _ σ14 (σ14.1 10 (p1).toNatClampNeg) p2 r16 er16) (cwV 2 hts gX5_ask_X5_finds rfl rfl rfl hd_X5_finds ⟨by decide, by decide⟩) hK hP hD hS hA hNN (ci := 5) (q0 := 0) (N := 30) rfl (wM_0 ad cA σ14) rfl hl.1 rfl (Nat.le_of_ble_eq_true rfl) dX5_ask_126 (fun H locs hP hD hS => ?_)
            refine lv_istore_n (lv' := [(3, .int r16), (0, .ref (ad 0)), (1, .int p1), (2, .int p2)]) hx hb dX5_ask_129 rfl hl (by decide) rfl (fun ls hl => ?_)
            refine lv_iload_n hx hb dX5_ask_130 rfl (lv_at hl 0 rfl) ?_
            refine lv_iconst (v := (-1)) hx hb dX5_ask_131 (by decide) ?_
            refine lv_icmp_eq (tgt := 225) hx hb dX5_ask_132 (by decide) (fun c_17 => ?_) (fun c_17 => ?_)
            · have hF := iteT hF c_17
              refine lv_iload_n hx hb dX5_ask_225 rfl (lv_at hl 0 rfl) ?_
              refine lv_iconst (v := (-1)) hx hb dX5_ask_226 (by decide) ?_
              refine lv_icmp_eq (tgt := 241) hx hb dX5_ask_227 (by decide) (fun c_18 => ?_) (fun c_18 => ?_)
              · have hF := iteT hF c_18
                refine lv_iload_n hx hb dX5_ask_241 rfl (lv_at hl 0 rfl) ?_
                exact g_iretN hx hb hr rfl hlocks hP hK hD hS dX5_ask_242 hF
              · have hF := iteF hF c_18
                refine lv_aload_n hx hb dX5_ask_230 rfl (lv_at hl 1 rfl) ?_
                refine lv_aload_n hx hb dX5_ask_231 rfl (lv_at hl 1 rfl) ?_
                refine va_get (D := D) (ci := 5) (v := .ref (ad 12)) (C := RX5) (T := TX5) (N := 30) hx hb hts hiX5 hown hK hP 0 (wM_0 ad cA σ14) rfl 16 (by decide) hw3 (fun _ h9 => h9) rfl dX5_ask_232 ?_
                refine lv_iload_n hx hb dX5_ask_235 rfl (lv_at hl 2 rfl) ?_
                obtain ⟨hb_19, hF⟩ := chk_some hF
                refine va_iald hx hb hK hP 12 11 (wM_12 ad cA σ14) (tM_12 cA) hb_19 dX5_ask_236 ?_
                refine lv_iload_n hx hb dX5_ask_237 rfl (lv_at hl 0 rfl) ?_
                obtain ⟨σ20, e20, hF⟩ := bR_some hF
                refine gc_Vv (As := [.int (σ14.1 12 (p1).toNatClampNeg), .int r16]) hS9 (tyc_M_adds l D ad cA _ σ14 (σ14.1 12 (p1).toNatClampNeg) r16 σ20 e20) (cwV 2 hts gX5_ask_X5_adds rfl rfl rfl hd_X5_adds ⟨by decide, by decide⟩) hK hP hD hS hA hNN (ci := 5) (q0 := 0) (N := 30) rfl (wM_0 ad cA σ14) rfl hl.1 rfl (Nat.le_of_ble_eq_true rfl) dX5_ask_238 (fun H locs hP hD hS => ?_)
                refine lv_iload_n hx hb dX5_ask_241 rfl (lv_at hl 0 rfl) ?_
                exact g_iretN hx hb hr rfl hlocks hP hK hD hS dX5_ask_242 hF
            · have hF := iteF hF c_17
              refine lv_aload_n hx hb dX5_ask_135 rfl (lv_at hl 1 rfl) ?_
              refine va_get (D := D) (ci := 5) (v := .ref (ad 12)) (C := RX5) (T := TX5) (N := 30) hx hb hts hiX5 hown hK hP 0 (wM_0 ad cA σ14) rfl 16 (by decide) hw3 (fun _ h9 => h9) rfl dX5_ask_136 ?_
              refine lv_iload_n hx hb dX5_ask_139 rfl (lv_at hl 2 rfl) ?_
              obtain ⟨hb_21, hF⟩ := chk_some hF
              refine va_iald hx hb hK hP 12 11 (wM_12 ad cA σ14) (tM_12 cA) hb_21 dX5_ask_140 ?_
              refine lv_iconst (v := (-1)) hx hb dX5_ask_141 (by decide) ?_
              refine lv_icmp_ne (tgt := 225) hx hb dX5_ask_142 (by decide) (fun c_22 => ?_) (fun c_22 => ?_)
              · have hF := iteF hF c_22
                refine lv_iload_n hx hb dX5_ask_225 rfl (lv_at hl 0 rfl) ?_
                refine lv_iconst (v := (-1)) hx hb dX5_ask_226 (by decide) ?_
                refine lv_icmp_eq (tgt := 241) hx hb dX5_ask_227 (by decide) (fun c_23 => ?_) (fun c_23 => ?_)
                · have hF := iteT hF c_23
                  refine lv_iload_n hx hb dX5_ask_241 rfl (lv_at hl 0 rfl) ?_
                  exact g_iretN hx hb hr rfl hlocks hP hK hD hS dX5_ask_242 hF
                · have hF := iteF hF c_23
                  refine lv_aload_n hx hb dX5_ask_230 rfl (lv_at hl 1 rfl) ?_
                  refine lv_aload_n hx hb dX5_ask_231 rfl (lv_at hl 1 rfl) ?_
                  refine va_get (D := D) (ci := 5) (v := .ref (ad 12)) (C := RX5) (T := TX5) (N := 30) hx hb hts hiX5 hown hK hP 0 (wM_0 ad cA σ14) rfl 16 (by decide) hw3 (fun _ h9 => h9) rfl dX5_ask_232 ?_
                  refine lv_iload_n hx hb dX5_ask_235 rfl (lv_at hl 2 rfl) ?_
                  obtain ⟨hb_24, hF⟩ := chk_some hF
                  refine va_iald hx hb hK hP 12 11 (wM_12 ad cA σ14) (tM_12 cA) hb_24 dX5_ask_236 ?_
                  refine lv_iload_n hx hb dX5_ask_237 rfl (lv_at hl 0 rfl) ?_
                  obtain ⟨σ25, e25, hF⟩ := bR_some hF
                  refine gc_Vv (As := [.int (σ14.1 12 (p1).toNatClampNeg), .int r16]) hS9 (tyc_M_adds l D ad cA _ σ14 (σ14.1 12 (p1).toNatClampNeg) r16 σ25 e25) (cwV 2 hts gX5_ask_X5_adds rfl rfl rfl hd_X5_adds ⟨by decide, by decide⟩) hK hP hD hS hA hNN (ci := 5) (q0 := 0) (N := 30) rfl (wM_0 ad cA σ14) rfl hl.1 rfl (Nat.le_of_ble_eq_true rfl) dX5_ask_238 (fun H locs hP hD hS => ?_)
                  refine lv_iload_n hx hb dX5_ask_241 rfl (lv_at hl 0 rfl) ?_
                  exact g_iretN hx hb hr rfl hlocks hP hK hD hS dX5_ask_242 hF
              · have hF := iteT hF c_22
                refine lv_aload_n hx hb dX5_ask_145 rfl (lv_at hl 1 rfl) ?_
                refine va_get (D := D) (ci := 5) (v := .ref (ad 13)) (C := RX5) (T := TX5) (N := 30) hx hb hts hiX5 hown hK hP 0 (wM_0 ad cA σ14) rfl 18 (by decide) hw6 (fun _ h9 => h9) rfl dX5_ask_146 ?_
                refine lv_aload_n hx hb dX5_ask_149 rfl (lv_at hl 1 rfl) ?_
                refine va_get (D := D) (ci := 5) (v := .int (σ14.2 5)) (C := RX5) (T := TX5) (N := 30) hx hb hts hiX5 hown hK hP 0 (wM_0 ad cA σ14) rfl 17 (by decide) hw7 (fun _ h9 => h9) rfl dX5_ask_150 ?_
                refine lv_iconst (v := 0) hx hb dX5_ask_153 (by decide) ?_
                obtain ⟨hb_26, hF⟩ := chk_some hF
                obtain ⟨σ27, e27, hF⟩ := stp_some hF
                refine gw_iast hx hb hK hP hD hS (wM_13 ad cA σ14) (tM_13 cA) (wMs_13 ad cA σ14) hb_26 dX5_ask_154 e27 (fun H locs hP hD hS => ?_)
                refine lv_aload_n hx hb dX5_ask_155 rfl (lv_at hl 1 rfl) ?_
                refine va_get (D := D) (ci := 5) (v := .ref (ad 14)) (C := RX5) (T := TX5) (N := 30) hx hb hts hiX5 hown hK hP 0 (wM_0 ad cA σ27) rfl 19 (by decide) hw4 (fun _ h9 => h9) rfl dX5_ask_156 ?_
                refine lv_aload_n hx hb dX5_ask_159 rfl (lv_at hl 1 rfl) ?_
                refine va_get (D := D) (ci := 5) (v := .int (σ27.2 5)) (C := RX5) (T := TX5) (N := 30) hx hb hts hiX5 hown hK hP 0 (wM_0 ad cA σ27) rfl 17 (by decide) hw7 (fun _ h9 => h9) rfl dX5_ask_160 ?_
                refine lv_iload_n hx hb dX5_ask_163 rfl (lv_at hl 3 rfl) ?_
                obtain ⟨hb_28, hF⟩ := chk_some hF
                obtain ⟨σ29, e29, hF⟩ := stp_some hF
                refine gw_iast hx hb hK hP hD hS (wM_14 ad cA σ27) (tM_14 cA) (wMs_14 ad cA σ27) hb_28 dX5_ask_164 e29 (fun H locs hP hD hS => ?_)
                refine lv_aload_n hx hb dX5_ask_165 rfl (lv_at hl 1 rfl) ?_
                refine va_get (D := D) (ci := 5) (v := .ref (ad 15)) (C := RX5) (T := TX5) (N := 30) hx hb hts hiX5 hown hK hP 0 (wM_0 ad cA σ29) rfl 20 (by decide) hw8 (fun _ h9 => h9) rfl dX5_ask_166 ?_
                refine lv_aload_n hx hb dX5_ask_169 rfl (lv_at hl 1 rfl) ?_
                refine va_get (D := D) (ci := 5) (v := .int (σ29.2 5)) (C := RX5) (T := TX5) (N := 30) hx hb hts hiX5 hown hK hP 0 (wM_0 ad cA σ29) rfl 17 (by decide) hw7 (fun _ h9 => h9) rfl dX5_ask_170 ?_
                refine lv_aload_n hx hb dX5_ask_173 rfl (lv_at hl 1 rfl) ?_
                refine va_get (D := D) (ci := 5) (v := .ref (ad 9)) (C := RX5) (T := TX5) (N := 30) hx hb hts hiX5 hown hK hP 0 (wM_0 ad cA σ29) rfl 13 (by decide) hw9 (fun _ h9 => h9) rfl dX5_ask_174 ?_
                refine lv_iload_n hx hb dX5_ask_177 rfl (lv_at hl 2 rfl) ?_
                obtain ⟨hb_30, hF⟩ := chk_some hF
                refine va_iald hx hb hK hP 9 8 (wM_9 ad cA σ29) (tM_9 cA) hb_30 dX5_ask_178 ?_
                obtain ⟨hb_31, hF⟩ := chk_some hF
                obtain ⟨σ32, e32, hF⟩ := stp_some hF
                refine gw_iast hx hb hK hP hD hS (wM_15 ad cA σ29) (tM_15 cA) (wMs_15 ad cA σ29) hb_31 dX5_ask_179 e32 (fun H locs hP hD hS => ?_)
                refine lv_aload_n hx hb dX5_ask_180 rfl (lv_at hl 1 rfl) ?_
                refine va_get (D := D) (ci := 5) (v := .ref (ad 16)) (C := RX5) (T := TX5) (N := 30) hx hb hts hiX5 hown hK hP 0 (wM_0 ad cA σ32) rfl 21 (by decide) hw10 (fun _ h9 => h9) rfl dX5_ask_181 ?_
                refine lv_aload_n hx hb dX5_ask_184 rfl (lv_at hl 1 rfl) ?_
                refine va_get (D := D) (ci := 5) (v := .int (σ32.2 5)) (C := RX5) (T := TX5) (N := 30) hx hb hts hiX5 hown hK hP 0 (wM_0 ad cA σ32) rfl 17 (by decide) hw7 (fun _ h9 => h9) rfl dX5_ask_185 ?_
                refine lv_aload_n hx hb dX5_ask_188 rfl (lv_at hl 1 rfl) ?_
                refine va_get (D := D) (ci := 5) (v := .ref (ad 10)) (C := RX5) (T := TX5) (N := 30) hx hb hts hiX5 hown hK hP 0 (wM_0 ad cA σ32) rfl 14 (by decide) hw5 (fun _ h9 => h9) rfl dX5_ask_189 ?_
                refine lv_iload_n hx hb dX5_ask_192 rfl (lv_at hl 2 rfl) ?_
                obtain ⟨hb_33, hF⟩ := chk_some hF
                refine va_iald hx hb hK hP 10 9 (wM_10 ad cA σ32) (tM_10 cA) hb_33 dX5_ask_193 ?_
                obtain ⟨hb_34, hF⟩ := chk_some hF
                obtain ⟨σ35, e35, hF⟩ := stp_some hF
                refine gw_iast hx hb hK hP hD hS (wM_16 ad cA σ32) (tM_16 cA) (wMs_16 ad cA σ32) hb_34 dX5_ask_194 e35 (fun H locs hP hD hS => ?_)
                refine lv_aload_n hx hb dX5_ask_195 rfl (lv_at hl 1 rfl) ?_
                refine va_get (D := D) (ci := 5) (v := .ref (ad 18)) (C := RX5) (T := TX5) (N := 30) hx hb hts hiX5 hown hK hP 0 (wM_0 ad cA σ35) rfl 23 (by decide) hw11 (fun _ h9 => h9) rfl dX5_ask_196 ?_
                refine lv_aload_n hx hb dX5_ask_199 rfl (lv_at hl 1 rfl) ?_
                refine va_get (D := D) (ci := 5) (v := .int (σ35.2 5)) (C := RX5) (T := TX5) (N := 30) hx hb hts hiX5 hown hK hP 0 (wM_0 ad cA σ35) rfl 17 (by decide) hw7 (fun _ h9 => h9) rfl dX5_ask_200 ?_
                refine lv_iconst (v := 0) hx hb dX5_ask_203 (by decide) ?_
                obtain ⟨hb_36, hF⟩ := chk_some hF
                obtain ⟨σ37, e37, hF⟩ := stp_some hF
                refine gw_iast hx hb hK hP hD hS (wM_18 ad cA σ35) (tM_18 cA) (wMs_18 ad cA σ35) hb_36 dX5_ask_204 e37 (fun H locs hP hD hS => ?_)
                refine lv_aload_n hx hb dX5_ask_205 rfl (lv_at hl 1 rfl) ?_
                refine va_get (D := D) (ci := 5) (v := .ref (ad 12)) (C := RX5) (T := TX5) (N := 30) hx hb hts hiX5 hown hK hP 0 (wM_0 ad cA σ37) rfl 16 (by decide) hw3 (fun _ h9 => h9) rfl dX5_ask_206 ?_
                refine lv_iload_n hx hb dX5_ask_209 rfl (lv_at hl 2 rfl) ?_
                refine lv_aload_n hx hb dX5_ask_210 rfl (lv_at hl 1 rfl) ?_
                refine va_get (D := D) (ci := 5) (v := .int (σ37.2 5)) (C := RX5) (T := TX5) (N := 30) hx hb hts hiX5 hown hK hP 0 (wM_0 ad cA σ37) rfl 17 (by decide) hw7 (fun _ h9 => h9) rfl dX5_ask_211 ?_
                obtain ⟨hb_38, hF⟩ := chk_some hF
                obtain ⟨σ39, e39, hF⟩ := stp_some hF
                refine gw_iast hx hb hK hP hD hS (wM_12 ad cA σ37) (tM_12 cA) (wMs_12 ad cA σ37) hb_38 dX5_ask_214 e39 (fun H locs hP hD hS => ?_)
                refine lv_aload_n hx hb dX5_ask_215 rfl (lv_at hl 1 rfl) ?_
                refine lv_dup hx hb dX5_ask_216 rfl ?_
                refine va_get (D := D) (ci := 5) (v := .int (σ39.2 5)) (C := RX5) (T := TX5) (N := 30) hx hb hts hiX5 hown hK hP 0 (wM_0 ad cA σ39) rfl 17 (by decide) hw7 (fun _ h9 => h9) rfl dX5_ask_217 ?_
                refine lv_iconst (v := 1) hx hb dX5_ask_220 (by decide) ?_
                refine lv_iadd hx hb dX5_ask_221 ?_
                obtain ⟨σ40, e40, hF⟩ := stp_some hF
                refine gw_put hx hb hts hiX5 tyX5 tyX5_ok nmX5 hown hK hP hD hS 0 (wM_0 ad cA σ39) rfl 17 (by decide) hw7 (fun _ h9 => h9) rfl (by decide +kernel) (show 17 < 30 from by decide) (wMv_5 ad cA σ39 _) dX5_ask_222 e40 (fun H locs hP hD hS => ?_)
                refine lv_iload_n hx hb dX5_ask_225 rfl (lv_at hl 0 rfl) ?_
                refine lv_iconst (v := (-1)) hx hb dX5_ask_226 (by decide) ?_
                refine lv_icmp_eq (tgt := 241) hx hb dX5_ask_227 (by decide) (fun c_41 => ?_) (fun c_41 => ?_)
                · have hF := iteT hF c_41
                  refine lv_iload_n hx hb dX5_ask_241 rfl (lv_at hl 0 rfl) ?_
                  exact g_iretN hx hb hr rfl hlocks hP hK hD hS dX5_ask_242 hF
                · have hF := iteF hF c_41
                  refine lv_aload_n hx hb dX5_ask_230 rfl (lv_at hl 1 rfl) ?_
                  refine lv_aload_n hx hb dX5_ask_231 rfl (lv_at hl 1 rfl) ?_
                  refine va_get (D := D) (ci := 5) (v := .ref (ad 12)) (C := RX5) (T := TX5) (N := 30) hx hb hts hiX5 hown hK hP 0 (wM_0 ad cA σ40) rfl 16 (by decide) hw3 (fun _ h9 => h9) rfl dX5_ask_232 ?_
                  refine lv_iload_n hx hb dX5_ask_235 rfl (lv_at hl 2 rfl) ?_
                  obtain ⟨hb_42, hF⟩ := chk_some hF
                  refine va_iald hx hb hK hP 12 11 (wM_12 ad cA σ40) (tM_12 cA) hb_42 dX5_ask_236 ?_
                  refine lv_iload_n hx hb dX5_ask_237 rfl (lv_at hl 0 rfl) ?_
                  obtain ⟨σ43, e43, hF⟩ := bR_some hF
                  refine gc_Vv (As := [.int (σ40.1 12 (p1).toNatClampNeg), .int r16]) hS9 (tyc_M_adds l D ad cA _ σ40 (σ40.1 12 (p1).toNatClampNeg) r16 σ43 e43) (cwV 2 hts gX5_ask_X5_adds rfl rfl rfl hd_X5_adds ⟨by decide, by decide⟩) hK hP hD hS hA hNN (ci := 5) (q0 := 0) (N := 30) rfl (wM_0 ad cA σ40) rfl hl.1 rfl (Nat.le_of_ble_eq_true rfl) dX5_ask_238 (fun H locs hP hD hS => ?_)
                  refine lv_iload_n hx hb dX5_ask_241 rfl (lv_at hl 0 rfl) ?_
                  exact g_iretN hx hb hr rfl hlocks hP hK hD hS dX5_ask_242 hF
        · have hF := iteT hF c_9
          refine lv_aload_n hx hb dX5_ask_58 rfl (lv_at hl 0 rfl) ?_
          refine va_get (D := D) (ci := 5) (v := .int (σ7.2 5)) (C := RX5) (T := TX5) (N := 30) hx hb hts hiX5 hown hK hP 0 (wM_0 ad cA σ7) rfl 17 (by decide) hw7 (fun _ h9 => h9) rfl dX5_ask_59 ?_
          refine lv_bipush (v := 40) hx hb dX5_ask_62 (by decide) ?_
          refine lv_icmp_ge (tgt := 71) hx hb dX5_ask_64 (by decide) (fun c_44 => ?_) (fun c_44 => ?_)
          · have hF := iteT hF c_44
            refine lv_iconst (v := 0) hx hb dX5_ask_71 (by decide) ?_
            refine lv_goto (tgt := 95) hx hb dX5_ask_72 (by decide) ?_
            refine lv_istore_n (lv' := [(3, .int 0), (0, .ref (ad 0)), (1, .int p1), (2, .int p2)]) hx hb dX5_ask_95 rfl hl (by decide) rfl (fun ls hl => ?_)
            refine lv_aload_n hx hb dX5_ask_96 rfl (lv_at hl 1 rfl) ?_
            refine lv_iload_n hx hb dX5_ask_97 rfl (lv_at hl 0 rfl) ?_
            refine lv_if_eq (tgt := 105) hx hb dX5_ask_98 (by decide) (fun _ => ?_) (fun h9 => absurd h9 (by decide))
            refine lv_iconst (v := 3) hx hb dX5_ask_105 (by decide) ?_
            obtain ⟨σ45, e45, hF⟩ := stp_some hF
            refine gw_put hx hb hts hiX5 tyX5 tyX5_ok nmX5 hown hK hP hD hS 0 (wM_0 ad cA σ7) rfl 0 (by decide) hw2 (fun _ h9 => h9) rfl (by decide +kernel) (show 0 < 30 from by decide) (wMv_0 ad cA σ7 _) dX5_ask_106 e45 (fun H locs hP hD hS => ?_)
            refine lv_aload_n hx hb dX5_ask_109 rfl (lv_at hl 1 rfl) ?_
            refine va_get (D := D) (ci := 5) (v := .int (σ45.2 0)) (C := RX5) (T := TX5) (N := 30) hx hb hts hiX5 hown hK hP 0 (wM_0 ad cA σ45) rfl 0 (by decide) hw2 (fun _ h9 => h9) rfl dX5_ask_110 ?_
            refine lv_as (y := 3) (by rw [e45]; rfl) ?_
            refine lv_if_le (tgt := 118) hx hb dX5_ask_113 (by decide) (fun h9 => absurd h9 (by decide)) (fun _ => ?_)
            refine lv_iconst (v := 0) hx hb dX5_ask_116 (by decide) ?_
            exact g_iretN hx hb hr rfl hlocks hP hK hD hS dX5_ask_117 hF
          · have hF := iteF hF c_44
            refine lv_iconst (v := 1) hx hb dX5_ask_67 (by decide) ?_
            refine lv_goto (tgt := 95) hx hb dX5_ask_68 (by decide) ?_
            refine lv_istore_n (lv' := [(3, .int 1), (0, .ref (ad 0)), (1, .int p1), (2, .int p2)]) hx hb dX5_ask_95 rfl hl (by decide) rfl (fun ls hl => ?_)
            refine lv_aload_n hx hb dX5_ask_96 rfl (lv_at hl 1 rfl) ?_
            refine lv_iload_n hx hb dX5_ask_97 rfl (lv_at hl 0 rfl) ?_
            refine lv_if_eq (tgt := 105) hx hb dX5_ask_98 (by decide) (fun h9 => absurd h9 (by decide)) (fun _ => ?_)
            refine lv_iconst (v := 0) hx hb dX5_ask_101 (by decide) ?_
            refine lv_goto (tgt := 106) hx hb dX5_ask_102 (by decide) ?_
            obtain ⟨σ46, e46, hF⟩ := stp_some hF
            refine gw_put hx hb hts hiX5 tyX5 tyX5_ok nmX5 hown hK hP hD hS 0 (wM_0 ad cA σ7) rfl 0 (by decide) hw2 (fun _ h9 => h9) rfl (by decide +kernel) (show 0 < 30 from by decide) (wMv_0 ad cA σ7 _) dX5_ask_106 e46 (fun H locs hP hD hS => ?_)
            refine lv_aload_n hx hb dX5_ask_109 rfl (lv_at hl 1 rfl) ?_
            refine va_get (D := D) (ci := 5) (v := .int (σ46.2 0)) (C := RX5) (T := TX5) (N := 30) hx hb hts hiX5 hown hK hP 0 (wM_0 ad cA σ46) rfl 0 (by decide) hw2 (fun _ h9 => h9) rfl dX5_ask_110 ?_
            refine lv_as (y := 0) (by rw [e46]; rfl) ?_
            refine lv_if_le (tgt := 118) hx hb dX5_ask_113 (by decide) (fun _ => ?_) (fun h9 => absurd h9 (by decide))
            refine lv_aload_n hx hb dX5_ask_118 rfl (lv_at hl 1 rfl) ?_
            refine lv_aload_n hx hb dX5_ask_119 rfl (lv_at hl 1 rfl) ?_
            refine va_get (D := D) (ci := 5) (v := .ref (ad 10)) (C := RX5) (T := TX5) (N := 30) hx hb hts hiX5 hown hK hP 0 (wM_0 ad cA σ46) rfl 14 (by decide) hw5 (fun _ h9 => h9) rfl dX5_ask_120 ?_
            refine lv_iload_n hx hb dX5_ask_123 rfl (lv_at hl 2 rfl) ?_
            obtain ⟨hb_47, hF⟩ := chk_some hF
            refine va_iald hx hb hK hP 10 9 (wM_10 ad cA σ46) (tM_10 cA) hb_47 dX5_ask_124 ?_
            refine lv_iload_n hx hb dX5_ask_125 rfl (lv_at hl 3 rfl) ?_
            obtain ⟨r48, er48, hF⟩ := bR_some hF
            refine gc_Vi (As := [.int (σ46.1 10 (p1).toNatClampNeg), .int p2]) hS9 (tyc_M_finds l D ad cA _ σ46 (σ46.1 10 (p1).toNatClampNeg) p2 r48 er48) (cwV 2 hts gX5_ask_X5_finds rfl rfl rfl hd_X5_finds ⟨by decide, by decide⟩) hK hP hD hS hA hNN (ci := 5) (q0 := 0) (N := 30) rfl (wM_0 ad cA σ46) rfl hl.1 rfl (Nat.le_of_ble_eq_true rfl) dX5_ask_126 (fun H locs hP hD hS => ?_)
            refine lv_istore_n (lv' := [(3, .int r48), (0, .ref (ad 0)), (1, .int p1), (2, .int p2)]) hx hb dX5_ask_129 rfl hl (by decide) rfl (fun ls hl => ?_)
            refine lv_iload_n hx hb dX5_ask_130 rfl (lv_at hl 0 rfl) ?_
            refine lv_iconst (v := (-1)) hx hb dX5_ask_131 (by decide) ?_
            refine lv_icmp_eq (tgt := 225) hx hb dX5_ask_132 (by decide) (fun c_49 => ?_) (fun c_49 => ?_)
            · have hF := iteT hF c_49
              refine lv_iload_n hx hb dX5_ask_225 rfl (lv_at hl 0 rfl) ?_
              refine lv_iconst (v := (-1)) hx hb dX5_ask_226 (by decide) ?_
              refine lv_icmp_eq (tgt := 241) hx hb dX5_ask_227 (by decide) (fun c_50 => ?_) (fun c_50 => ?_)
              · have hF := iteT hF c_50
                refine lv_iload_n hx hb dX5_ask_241 rfl (lv_at hl 0 rfl) ?_
                exact g_iretN hx hb hr rfl hlocks hP hK hD hS dX5_ask_242 hF
              · have hF := iteF hF c_50
                refine lv_aload_n hx hb dX5_ask_230 rfl (lv_at hl 1 rfl) ?_
                refine lv_aload_n hx hb dX5_ask_231 rfl (lv_at hl 1 rfl) ?_
                refine va_get (D := D) (ci := 5) (v := .ref (ad 12)) (C := RX5) (T := TX5) (N := 30) hx hb hts hiX5 hown hK hP 0 (wM_0 ad cA σ46) rfl 16 (by decide) hw3 (fun _ h9 => h9) rfl dX5_ask_232 ?_
                refine lv_iload_n hx hb dX5_ask_235 rfl (lv_at hl 2 rfl) ?_
                obtain ⟨hb_51, hF⟩ := chk_some hF
                refine va_iald hx hb hK hP 12 11 (wM_12 ad cA σ46) (tM_12 cA) hb_51 dX5_ask_236 ?_
                refine lv_iload_n hx hb dX5_ask_237 rfl (lv_at hl 0 rfl) ?_
                obtain ⟨σ52, e52, hF⟩ := bR_some hF
                refine gc_Vv (As := [.int (σ46.1 12 (p1).toNatClampNeg), .int r48]) hS9 (tyc_M_adds l D ad cA _ σ46 (σ46.1 12 (p1).toNatClampNeg) r48 σ52 e52) (cwV 2 hts gX5_ask_X5_adds rfl rfl rfl hd_X5_adds ⟨by decide, by decide⟩) hK hP hD hS hA hNN (ci := 5) (q0 := 0) (N := 30) rfl (wM_0 ad cA σ46) rfl hl.1 rfl (Nat.le_of_ble_eq_true rfl) dX5_ask_238 (fun H locs hP hD hS => ?_)
                refine lv_iload_n hx hb dX5_ask_241 rfl (lv_at hl 0 rfl) ?_
                exact g_iretN hx hb hr rfl hlocks hP hK hD hS dX5_ask_242 hF
            · have hF := iteF hF c_49
              refine lv_aload_n hx hb dX5_ask_135 rfl (lv_at hl 1 rfl) ?_
              refine va_get (D := D) (ci := 5) (v := .ref (ad 12)) (C := RX5) (T := TX5) (N := 30) hx hb hts hiX5 hown hK hP 0 (wM_0 ad cA σ46) rfl 16 (by decide) hw3 (fun _ h9 => h9) rfl dX5_ask_136 ?_
              refine lv_iload_n hx hb dX5_ask_139 rfl (lv_at hl 2 rfl) ?_
              obtain ⟨hb_53, hF⟩ := chk_some hF
              refine va_iald hx hb hK hP 12 11 (wM_12 ad cA σ46) (tM_12 cA) hb_53 dX5_ask_140 ?_
              refine lv_iconst (v := (-1)) hx hb dX5_ask_141 (by decide) ?_
              refine lv_icmp_ne (tgt := 225) hx hb dX5_ask_142 (by decide) (fun c_54 => ?_) (fun c_54 => ?_)
              · have hF := iteF hF c_54
                refine lv_iload_n hx hb dX5_ask_225 rfl (lv_at hl 0 rfl) ?_
                refine lv_iconst (v := (-1)) hx hb dX5_ask_226 (by decide) ?_
                refine lv_icmp_eq (tgt := 241) hx hb dX5_ask_227 (by decide) (fun c_55 => ?_) (fun c_55 => ?_)
                · have hF := iteT hF c_55
                  refine lv_iload_n hx hb dX5_ask_241 rfl (lv_at hl 0 rfl) ?_
                  exact g_iretN hx hb hr rfl hlocks hP hK hD hS dX5_ask_242 hF
                · have hF := iteF hF c_55
                  refine lv_aload_n hx hb dX5_ask_230 rfl (lv_at hl 1 rfl) ?_
                  refine lv_aload_n hx hb dX5_ask_231 rfl (lv_at hl 1 rfl) ?_
                  refine va_get (D := D) (ci := 5) (v := .ref (ad 12)) (C := RX5) (T := TX5) (N := 30) hx hb hts hiX5 hown hK hP 0 (wM_0 ad cA σ46) rfl 16 (by decide) hw3 (fun _ h9 => h9) rfl dX5_ask_232 ?_
                  refine lv_iload_n hx hb dX5_ask_235 rfl (lv_at hl 2 rfl) ?_
                  obtain ⟨hb_56, hF⟩ := chk_some hF
                  refine va_iald hx hb hK hP 12 11 (wM_12 ad cA σ46) (tM_12 cA) hb_56 dX5_ask_236 ?_
                  refine lv_iload_n hx hb dX5_ask_237 rfl (lv_at hl 0 rfl) ?_
                  obtain ⟨σ57, e57, hF⟩ := bR_some hF
                  refine gc_Vv (As := [.int (σ46.1 12 (p1).toNatClampNeg), .int r48]) hS9 (tyc_M_adds l D ad cA _ σ46 (σ46.1 12 (p1).toNatClampNeg) r48 σ57 e57) (cwV 2 hts gX5_ask_X5_adds rfl rfl rfl hd_X5_adds ⟨by decide, by decide⟩) hK hP hD hS hA hNN (ci := 5) (q0 := 0) (N := 30) rfl (wM_0 ad cA σ46) rfl hl.1 rfl (Nat.le_of_ble_eq_true rfl) dX5_ask_238 (fun H locs hP hD hS => ?_)
                  refine lv_iload_n hx hb dX5_ask_241 rfl (lv_at hl 0 rfl) ?_
                  exact g_iretN hx hb hr rfl hlocks hP hK hD hS dX5_ask_242 hF
              · have hF := iteT hF c_54
                refine lv_aload_n hx hb dX5_ask_145 rfl (lv_at hl 1 rfl) ?_
                refine va_get (D := D) (ci := 5) (v := .ref (ad 13)) (C := RX5) (T := TX5) (N := 30) hx hb hts hiX5 hown hK hP 0 (wM_0 ad cA σ46) rfl 18 (by decide) hw6 (fun _ h9 => h9) rfl dX5_ask_146 ?_
                refine lv_aload_n hx hb dX5_ask_149 rfl (lv_at hl 1 rfl) ?_
                refine va_get (D := D) (ci := 5) (v := .int (σ46.2 5)) (C := RX5) (T := TX5) (N := 30) hx hb hts hiX5 hown hK hP 0 (wM_0 ad cA σ46) rfl 17 (by decide) hw7 (fun _ h9 => h9) rfl dX5_ask_150 ?_
                refine lv_iconst (v := 0) hx hb dX5_ask_153 (by decide) ?_
                obtain ⟨hb_58, hF⟩ := chk_some hF
                obtain ⟨σ59, e59, hF⟩ := stp_some hF
                refine gw_iast hx hb hK hP hD hS (wM_13 ad cA σ46) (tM_13 cA) (wMs_13 ad cA σ46) hb_58 dX5_ask_154 e59 (fun H locs hP hD hS => ?_)
                refine lv_aload_n hx hb dX5_ask_155 rfl (lv_at hl 1 rfl) ?_
                refine va_get (D := D) (ci := 5) (v := .ref (ad 14)) (C := RX5) (T := TX5) (N := 30) hx hb hts hiX5 hown hK hP 0 (wM_0 ad cA σ59) rfl 19 (by decide) hw4 (fun _ h9 => h9) rfl dX5_ask_156 ?_
                refine lv_aload_n hx hb dX5_ask_159 rfl (lv_at hl 1 rfl) ?_
                refine va_get (D := D) (ci := 5) (v := .int (σ59.2 5)) (C := RX5) (T := TX5) (N := 30) hx hb hts hiX5 hown hK hP 0 (wM_0 ad cA σ59) rfl 17 (by decide) hw7 (fun _ h9 => h9) rfl dX5_ask_160 ?_
                refine lv_iload_n hx hb dX5_ask_163 rfl (lv_at hl 3 rfl) ?_
                obtain ⟨hb_60, hF⟩ := chk_some hF
                obtain ⟨σ61, e61, hF⟩ := stp_some hF
                refine gw_iast hx hb hK hP hD hS (wM_14 ad cA σ59) (tM_14 cA) (wMs_14 ad cA σ59) hb_60 dX5_ask_164 e61 (fun H locs hP hD hS => ?_)
                refine lv_aload_n hx hb dX5_ask_165 rfl (lv_at hl 1 rfl) ?_
                refine va_get (D := D) (ci := 5) (v := .ref (ad 15)) (C := RX5) (T := TX5) (N := 30) hx hb hts hiX5 hown hK hP 0 (wM_0 ad cA σ61) rfl 20 (by decide) hw8 (fun _ h9 => h9) rfl dX5_ask_166 ?_
                refine lv_aload_n hx hb dX5_ask_169 rfl (lv_at hl 1 rfl) ?_
                refine va_get (D := D) (ci := 5) (v := .int (σ61.2 5)) (C := RX5) (T := TX5) (N := 30) hx hb hts hiX5 hown hK hP 0 (wM_0 ad cA σ61) rfl 17 (by decide) hw7 (fun _ h9 => h9) rfl dX5_ask_170 ?_
                refine lv_aload_n hx hb dX5_ask_173 rfl (lv_at hl 1 rfl) ?_
                refine va_get (D := D) (ci := 5) (v := .ref (ad 9)) (C := RX5) (T := TX5) (N := 30) hx hb hts hiX5 hown hK hP 0 (wM_0 ad cA σ61) rfl 13 (by decide) hw9 (fun _ h9 => h9) rfl dX5_ask_174 ?_
                refine lv_iload_n hx hb dX5_ask_177 rfl (lv_at hl 2 rfl) ?_
                obtain ⟨hb_62, hF⟩ := chk_some hF
                refine va_iald hx hb hK hP 9 8 (wM_9 ad cA σ61) (tM_9 cA) hb_62 dX5_ask_178 ?_
                obtain ⟨hb_63, hF⟩ := chk_some hF
                obtain ⟨σ64, e64, hF⟩ := stp_some hF
                refine gw_iast hx hb hK hP hD hS (wM_15 ad cA σ61) (tM_15 cA) (wMs_15 ad cA σ61) hb_63 dX5_ask_179 e64 (fun H locs hP hD hS => ?_)
                refine lv_aload_n hx hb dX5_ask_180 rfl (lv_at hl 1 rfl) ?_
                refine va_get (D := D) (ci := 5) (v := .ref (ad 16)) (C := RX5) (T := TX5) (N := 30) hx hb hts hiX5 hown hK hP 0 (wM_0 ad cA σ64) rfl 21 (by decide) hw10 (fun _ h9 => h9) rfl dX5_ask_181 ?_
                refine lv_aload_n hx hb dX5_ask_184 rfl (lv_at hl 1 rfl) ?_
                refine va_get (D := D) (ci := 5) (v := .int (σ64.2 5)) (C := RX5) (T := TX5) (N := 30) hx hb hts hiX5 hown hK hP 0 (wM_0 ad cA σ64) rfl 17 (by decide) hw7 (fun _ h9 => h9) rfl dX5_ask_185 ?_
                refine lv_aload_n hx hb dX5_ask_188 rfl (lv_at hl 1 rfl) ?_
                refine va_get (D := D) (ci := 5) (v := .ref (ad 10)) (C := RX5) (T := TX5) (N := 30) hx hb hts hiX5 hown hK hP 0 (wM_0 ad cA σ64) rfl 14 (by decide) hw5 (fun _ h9 => h9) rfl dX5_ask_189 ?_
                refine lv_iload_n hx hb dX5_ask_192 rfl (lv_at hl 2 rfl) ?_
                obtain ⟨hb_65, hF⟩ := chk_some hF
                refine va_iald hx hb hK hP 10 9 (wM_10 ad cA σ64) (tM_10 cA) hb_65 dX5_ask_193 ?_
                obtain ⟨hb_66, hF⟩ := chk_some hF
                obtain ⟨σ67, e67, hF⟩ := stp_some hF
                refine gw_iast hx hb hK hP hD hS (wM_16 ad cA σ64) (tM_16 cA) (wMs_16 ad cA σ64) hb_66 dX5_ask_194 e67 (fun H locs hP hD hS => ?_)
                refine lv_aload_n hx hb dX5_ask_195 rfl (lv_at hl 1 rfl) ?_
                refine va_get (D := D) (ci := 5) (v := .ref (ad 18)) (C := RX5) (T := TX5) (N := 30) hx hb hts hiX5 hown hK hP 0 (wM_0 ad cA σ67) rfl 23 (by decide) hw11 (fun _ h9 => h9) rfl dX5_ask_196 ?_
                refine lv_aload_n hx hb dX5_ask_199 rfl (lv_at hl 1 rfl) ?_
                refine va_get (D := D) (ci := 5) (v := .int (σ67.2 5)) (C := RX5) (T := TX5) (N := 30) hx hb hts hiX5 hown hK hP 0 (wM_0 ad cA σ67) rfl 17 (by decide) hw7 (fun _ h9 => h9) rfl dX5_ask_200 ?_
                refine lv_iconst (v := 0) hx hb dX5_ask_203 (by decide) ?_
                obtain ⟨hb_68, hF⟩ := chk_some hF
                obtain ⟨σ69, e69, hF⟩ := stp_some hF
                refine gw_iast hx hb hK hP hD hS (wM_18 ad cA σ67) (tM_18 cA) (wMs_18 ad cA σ67) hb_68 dX5_ask_204 e69 (fun H locs hP hD hS => ?_)
                refine lv_aload_n hx hb dX5_ask_205 rfl (lv_at hl 1 rfl) ?_
                refine va_get (D := D) (ci := 5) (v := .ref (ad 12)) (C := RX5) (T := TX5) (N := 30) hx hb hts hiX5 hown hK hP 0 (wM_0 ad cA σ69) rfl 16 (by decide) hw3 (fun _ h9 => h9) rfl dX5_ask_206 ?_
                refine lv_iload_n hx hb dX5_ask_209 rfl (lv_at hl 2 rfl) ?_
                refine lv_aload_n hx hb dX5_ask_210 rfl (lv_at hl 1 rfl) ?_
                refine va_get (D := D) (ci := 5) (v := .int (σ69.2 5)) (C := RX5) (T := TX5) (N := 30) hx hb hts hiX5 hown hK hP 0 (wM_0 ad cA σ69) rfl 17 (by decide) hw7 (fun _ h9 => h9) rfl dX5_ask_211 ?_
                obtain ⟨hb_70, hF⟩ := chk_some hF
                obtain ⟨σ71, e71, hF⟩ := stp_some hF
                refine gw_iast hx hb hK hP hD hS (wM_12 ad cA σ69) (tM_12 cA) (wMs_12 ad cA σ69) hb_70 dX5_ask_214 e71 (fun H locs hP hD hS => ?_)
                refine lv_aload_n hx hb dX5_ask_215 rfl (lv_at hl 1 rfl) ?_
                refine lv_dup hx hb dX5_ask_216 rfl ?_
                refine va_get (D := D) (ci := 5) (v := .int (σ71.2 5)) (C := RX5) (T := TX5) (N := 30) hx hb hts hiX5 hown hK hP 0 (wM_0 ad cA σ71) rfl 17 (by decide) hw7 (fun _ h9 => h9) rfl dX5_ask_217 ?_
                refine lv_iconst (v := 1) hx hb dX5_ask_220 (by decide) ?_
                refine lv_iadd hx hb dX5_ask_221 ?_
                obtain ⟨σ72, e72, hF⟩ := stp_some hF
                refine gw_put hx hb hts hiX5 tyX5 tyX5_ok nmX5 hown hK hP hD hS 0 (wM_0 ad cA σ71) rfl 17 (by decide) hw7 (fun _ h9 => h9) rfl (by decide +kernel) (show 17 < 30 from by decide) (wMv_5 ad cA σ71 _) dX5_ask_222 e72 (fun H locs hP hD hS => ?_)
                refine lv_iload_n hx hb dX5_ask_225 rfl (lv_at hl 0 rfl) ?_
                refine lv_iconst (v := (-1)) hx hb dX5_ask_226 (by decide) ?_
                refine lv_icmp_eq (tgt := 241) hx hb dX5_ask_227 (by decide) (fun c_73 => ?_) (fun c_73 => ?_)
                · have hF := iteT hF c_73
                  refine lv_iload_n hx hb dX5_ask_241 rfl (lv_at hl 0 rfl) ?_
                  exact g_iretN hx hb hr rfl hlocks hP hK hD hS dX5_ask_242 hF
                · have hF := iteF hF c_73
                  refine lv_aload_n hx hb dX5_ask_230 rfl (lv_at hl 1 rfl) ?_
                  refine lv_aload_n hx hb dX5_ask_231 rfl (lv_at hl 1 rfl) ?_
                  refine va_get (D := D) (ci := 5) (v := .ref (ad 12)) (C := RX5) (T := TX5) (N := 30) hx hb hts hiX5 hown hK hP 0 (wM_0 ad cA σ72) rfl 16 (by decide) hw3 (fun _ h9 => h9) rfl dX5_ask_232 ?_
                  refine lv_iload_n hx hb dX5_ask_235 rfl (lv_at hl 2 rfl) ?_
                  obtain ⟨hb_74, hF⟩ := chk_some hF
                  refine va_iald hx hb hK hP 12 11 (wM_12 ad cA σ72) (tM_12 cA) hb_74 dX5_ask_236 ?_
                  refine lv_iload_n hx hb dX5_ask_237 rfl (lv_at hl 0 rfl) ?_
                  obtain ⟨σ75, e75, hF⟩ := bR_some hF
                  refine gc_Vv (As := [.int (σ72.1 12 (p1).toNatClampNeg), .int r48]) hS9 (tyc_M_adds l D ad cA _ σ72 (σ72.1 12 (p1).toNatClampNeg) r48 σ75 e75) (cwV 2 hts gX5_ask_X5_adds rfl rfl rfl hd_X5_adds ⟨by decide, by decide⟩) hK hP hD hS hA hNN (ci := 5) (q0 := 0) (N := 30) rfl (wM_0 ad cA σ72) rfl hl.1 rfl (Nat.le_of_ble_eq_true rfl) dX5_ask_238 (fun H locs hP hD hS => ?_)
                  refine lv_iload_n hx hb dX5_ask_241 rfl (lv_at hl 0 rfl) ?_
                  exact g_iretN hx hb hr rfl hlocks hP hK hD hS dX5_ask_242 hF
      · have hF := iteT hF c_6
        refine lv_iconst (v := 3) hx hb dX5_ask_33 (by decide) ?_
        refine lv_goto (tgt := 38) hx hb dX5_ask_34 (by decide) ?_
        obtain ⟨σ76, e76, hF⟩ := stp_some hF
        refine gw_put hx hb hts hiX5 tyX5 tyX5_ok nmX5 hown hK hP hD hS 0 (wM_0 ad cA σ) rfl 0 (by decide) hw2 (fun _ h9 => h9) rfl (by decide +kernel) (show 0 < 30 from by decide) (wMv_0 ad cA σ _) dX5_ask_38 e76 (fun H locs hP hD hS => ?_)
        refine lv_aload_n hx hb dX5_ask_41 rfl (lv_at hl 0 rfl) ?_
        refine va_get (D := D) (ci := 5) (v := .int (σ76.2 0)) (C := RX5) (T := TX5) (N := 30) hx hb hts hiX5 hown hK hP 0 (wM_0 ad cA σ76) rfl 0 (by decide) hw2 (fun _ h9 => h9) rfl dX5_ask_42 ?_
        refine lv_as (y := 3) (by rw [e76]; rfl) ?_
        refine lv_if_ne (tgt := 109) hx hb dX5_ask_45 (by decide) (fun _ => ?_) (fun h9 => absurd h9 (by decide))
        refine lv_aload_n hx hb dX5_ask_109 rfl (lv_at hl 0 rfl) ?_
        refine va_get (D := D) (ci := 5) (v := .int (σ76.2 0)) (C := RX5) (T := TX5) (N := 30) hx hb hts hiX5 hown hK hP 0 (wM_0 ad cA σ76) rfl 0 (by decide) hw2 (fun _ h9 => h9) rfl dX5_ask_110 ?_
        refine lv_as (y := 3) (by rw [e76]; rfl) ?_
        refine lv_if_le (tgt := 118) hx hb dX5_ask_113 (by decide) (fun h9 => absurd h9 (by decide)) (fun _ => ?_)
        refine lv_iconst (v := 0) hx hb dX5_ask_116 (by decide) ?_
        exact g_iretN hx hb hr rfl hlocks hP hK hD hS dX5_ask_117 hF
    · have hF := iteT hF c_4
      refine lv_iconst (v := 2) hx hb dX5_ask_20 (by decide) ?_
      refine lv_goto (tgt := 38) hx hb dX5_ask_21 (by decide) ?_
      obtain ⟨σ77, e77, hF⟩ := stp_some hF
      refine gw_put hx hb hts hiX5 tyX5 tyX5_ok nmX5 hown hK hP hD hS 0 (wM_0 ad cA σ) rfl 0 (by decide) hw2 (fun _ h9 => h9) rfl (by decide +kernel) (show 0 < 30 from by decide) (wMv_0 ad cA σ _) dX5_ask_38 e77 (fun H locs hP hD hS => ?_)
      refine lv_aload_n hx hb dX5_ask_41 rfl (lv_at hl 0 rfl) ?_
      refine va_get (D := D) (ci := 5) (v := .int (σ77.2 0)) (C := RX5) (T := TX5) (N := 30) hx hb hts hiX5 hown hK hP 0 (wM_0 ad cA σ77) rfl 0 (by decide) hw2 (fun _ h9 => h9) rfl dX5_ask_42 ?_
      refine lv_as (y := 2) (by rw [e77]; rfl) ?_
      refine lv_if_ne (tgt := 109) hx hb dX5_ask_45 (by decide) (fun _ => ?_) (fun h9 => absurd h9 (by decide))
      refine lv_aload_n hx hb dX5_ask_109 rfl (lv_at hl 0 rfl) ?_
      refine va_get (D := D) (ci := 5) (v := .int (σ77.2 0)) (C := RX5) (T := TX5) (N := 30) hx hb hts hiX5 hown hK hP 0 (wM_0 ad cA σ77) rfl 0 (by decide) hw2 (fun _ h9 => h9) rfl dX5_ask_110 ?_
      refine lv_as (y := 2) (by rw [e77]; rfl) ?_
      refine lv_if_le (tgt := 118) hx hb dX5_ask_113 (by decide) (fun h9 => absurd h9 (by decide)) (fun _ => ?_)
      refine lv_iconst (v := 0) hx hb dX5_ask_116 (by decide) ?_
      exact g_iretN hx hb hr rfl hlocks hP hK hD hS dX5_ask_117 hF
  · have hF := iteT hF c_2
    refine lv_iconst (v := 1) hx hb dX5_ask_9 (by decide) ?_
    refine lv_goto (tgt := 38) hx hb dX5_ask_10 (by decide) ?_
    obtain ⟨σ78, e78, hF⟩ := stp_some hF
    refine gw_put hx hb hts hiX5 tyX5 tyX5_ok nmX5 hown hK hP hD hS 0 (wM_0 ad cA σ) rfl 0 (by decide) hw2 (fun _ h9 => h9) rfl (by decide +kernel) (show 0 < 30 from by decide) (wMv_0 ad cA σ _) dX5_ask_38 e78 (fun H locs hP hD hS => ?_)
    refine lv_aload_n hx hb dX5_ask_41 rfl (lv_at hl 0 rfl) ?_
    refine va_get (D := D) (ci := 5) (v := .int (σ78.2 0)) (C := RX5) (T := TX5) (N := 30) hx hb hts hiX5 hown hK hP 0 (wM_0 ad cA σ78) rfl 0 (by decide) hw2 (fun _ h9 => h9) rfl dX5_ask_42 ?_
    refine lv_as (y := 1) (by rw [e78]; rfl) ?_
    refine lv_if_ne (tgt := 109) hx hb dX5_ask_45 (by decide) (fun _ => ?_) (fun h9 => absurd h9 (by decide))
    refine lv_aload_n hx hb dX5_ask_109 rfl (lv_at hl 0 rfl) ?_
    refine va_get (D := D) (ci := 5) (v := .int (σ78.2 0)) (C := RX5) (T := TX5) (N := 30) hx hb hts hiX5 hown hK hP 0 (wM_0 ad cA σ78) rfl 0 (by decide) hw2 (fun _ h9 => h9) rfl dX5_ask_110 ?_
    refine lv_as (y := 1) (by rw [e78]; rfl) ?_
    refine lv_if_le (tgt := 118) hx hb dX5_ask_113 (by decide) (fun h9 => absurd h9 (by decide)) (fun _ => ?_)
    refine lv_iconst (v := 0) hx hb dX5_ask_116 (by decide) ?_
    exact g_iretN hx hb hr rfl hlocks hP hK hD hS dX5_ask_117 hF
set_option maxHeartbeats 4000000 in
set_option maxRecDepth 100000 in
theorem tyc_M_confirm (l : Launch) (D : va_G) (ad : Nat → Nat) (cA : Nat → ClassId) (sz : Nat) (σ : tyS) (p1 : Int32) (r : Int32) (τ : tyS) (hF : tyf_M_confirm σ p1 = some (r, τ)) : gMi l yX5_confirm wsX5_confirm ({ frames := 2, cells := 0, slots := 0, locals := 43 } : Room) D (wM ad cA) (tM cA) [.ref (ad 0), .int p1] sz σ r τ := by
  refine Met.ofW (cc := cX5_confirm) (maxL := 3) (ret := (some .int)) (by decide) rfl ?_
  intro p e s m args below meth c s₁ B hml hv
  obtain ⟨rfl, hsz, hP, hK, hD0, hNN⟩ := hv
  have hx := B.exec
  have hb := B.bytes
  have hr := B.returns
  have hts := atoms_spec (ws := wsX5_confirm) B.pre
  have hown : s.vm.findClass RX5 = some m.cls := findClass_of_methodNamed B.named
  have hlocks := B.notSynchronized
  subst hsz
  have hD := hD0.self (sz := s.heap.size)
  generalize hAe : va_A (wM ad cA σ) s.heap.size = A at hD ⊢
  have hA : ∀ q : Nat, s.heap.size ≤ q → A q := fun q h => by rw [← hAe]; exact Or.inr h
  clear hAe hD0
  have hS : va_S A s.heap s.heap [] := va_S.rf
  have hl := lv_entry ([.ref (ad 0), .int p1]) (n := 3) (Nat.le_of_ble_eq_true rfl)
  rw [lg_entry_eq]
  generalize (lg_sl ([.ref (ad 0), .int p1]) ++ List.replicate (3 - (lg_sl ([.ref (ad 0), .int p1])).length) Slot.unset).toArray = ls at hl ⊢
  have hl : lv_has ls 3 [(0, .ref (ad 0)), (1, .int p1)] := hl
  have hS9 : CallFix p m c cX5_confirm 3 s _ wsX5_confirm RX5 := ⟨hx, hb, hml, hown, hts⟩
  have hw0 := hts (.fieldLink RX5 40 "TrunkYardsModel" "goesOn" "[Z") (List.mem_cons_of_mem _ (List.mem_of_getElem? (i := 0) rfl))
  have hiX5 : ∀ w ∈ wsX50, w ∈ wsX5_confirm := fun w h => List.mem_cons_of_mem _ (List.mem_append_right _ h)
  have hw2 := hts (.fieldLink RX5 80 "TrunkYardsModel" "thrown" "I") (List.mem_cons_of_mem _ (List.mem_of_getElem? (i := 2) rfl))
  have hw3 := hts (.fieldLink RX5 44 "TrunkYardsModel" "open" "[I") (List.mem_cons_of_mem _ (List.mem_of_getElem? (i := 1) rfl))
  have hw4 := hts (.fieldLink RX5 47 "TrunkYardsModel" "state" "[I") (List.mem_cons_of_mem _ (List.mem_of_getElem? (i := 3) rfl))
  unfold tyf_M_confirm at hF
  refine lv_aload_n hx hb dX5_confirm_0 rfl (lv_at hl 0 rfl) ?_
  refine lv_aload_n hx hb dX5_confirm_1 rfl (lv_at hl 0 rfl) ?_
  refine lv_iload_n hx hb dX5_confirm_2 rfl (lv_at hl 1 rfl) ?_
  obtain ⟨r1, er1, hF⟩ := bR_some hF
  refine gc_Vi (As := [.int p1]) hS9 (tyc_M_isCall l D ad cA _ σ p1 r1 er1) (cwV 1 hts gX5_confirm_X5_isCall rfl rfl rfl hd_X5_isCall ⟨by decide, by decide⟩) hK hP hD hS hA hNN (ci := 5) (q0 := 0) (N := 30) rfl (wM_0 ad cA σ) rfl hl.1 rfl (Nat.le_of_ble_eq_true rfl) dX5_confirm_3 (fun H locs hP hD hS => ?_)
  refine lv_if_ne (tgt := 13) hx hb dX5_confirm_6 (by decide) (fun c_2 => ?_) (fun c_2 => ?_)
  · have hF := iteF hF c_2
    refine lv_aload_n hx hb dX5_confirm_13 rfl (lv_at hl 0 rfl) ?_
    refine va_get (D := D) (ci := 5) (v := .ref (ad 11)) (C := RX5) (T := TX5) (N := 30) hx hb hts hiX5 hown hK hP 0 (wM_0 ad cA σ) rfl 15 (by decide) hw0 (fun _ h9 => h9) rfl dX5_confirm_14 ?_
    refine lv_iload_n hx hb dX5_confirm_17 rfl (lv_at hl 1 rfl) ?_
    obtain ⟨hb_3, hF⟩ := chk_some hF
    refine va_zald hx hb hK hP 11 10 (wM_11 ad cA σ) (tM_11 cA) hb_3 dX5_confirm_18 ?_
    refine lv_if_eq (tgt := 32) hx hb dX5_confirm_19 (by decide) (fun c_4 => ?_) (fun c_4 => ?_)
    · have hF := iteT hF c_4
      refine lv_iconst (v := 2) hx hb dX5_confirm_32 (by decide) ?_
      refine lv_goto (tgt := 37) hx hb dX5_confirm_33 (by decide) ?_
      obtain ⟨σ5, e5, hF⟩ := stp_some hF
      refine gw_put hx hb hts hiX5 tyX5 tyX5_ok nmX5 hown hK hP hD hS 0 (wM_0 ad cA σ) rfl 0 (by decide) hw2 (fun _ h9 => h9) rfl (by decide +kernel) (show 0 < 30 from by decide) (wMv_0 ad cA σ _) dX5_confirm_37 e5 (fun H locs hP hD hS => ?_)
      refine lv_aload_n hx hb dX5_confirm_40 rfl (lv_at hl 0 rfl) ?_
      refine va_get (D := D) (ci := 5) (v := .int (σ5.2 0)) (C := RX5) (T := TX5) (N := 30) hx hb hts hiX5 hown hK hP 0 (wM_0 ad cA σ5) rfl 0 (by decide) hw2 (fun _ h9 => h9) rfl dX5_confirm_41 ?_
      refine lv_as (y := 2) (by rw [e5]; rfl) ?_
      refine lv_if_le (tgt := 49) hx hb dX5_confirm_44 (by decide) (fun h9 => absurd h9 (by decide)) (fun _ => ?_)
      refine lv_iconst (v := 0) hx hb dX5_confirm_47 (by decide) ?_
      exact g_iretN hx hb hr rfl hlocks hP hK hD hS dX5_confirm_48 hF
    · have hF := iteF hF c_4
      refine lv_aload_n hx hb dX5_confirm_22 rfl (lv_at hl 0 rfl) ?_
      refine va_get (D := D) (ci := 5) (v := .ref (ad 12)) (C := RX5) (T := TX5) (N := 30) hx hb hts hiX5 hown hK hP 0 (wM_0 ad cA σ) rfl 16 (by decide) hw3 (fun _ h9 => h9) rfl dX5_confirm_23 ?_
      refine lv_iload_n hx hb dX5_confirm_26 rfl (lv_at hl 1 rfl) ?_
      obtain ⟨hb_6, hF⟩ := chk_some hF
      refine va_iald hx hb hK hP 12 11 (wM_12 ad cA σ) (tM_12 cA) hb_6 dX5_confirm_27 ?_
      refine lv_iconst (v := (-1)) hx hb dX5_confirm_28 (by decide) ?_
      refine lv_icmp_ne (tgt := 36) hx hb dX5_confirm_29 (by decide) (fun c_7 => ?_) (fun c_7 => ?_)
      · have hF := iteF hF c_7
        refine lv_iconst (v := 0) hx hb dX5_confirm_36 (by decide) ?_
        obtain ⟨σ8, e8, hF⟩ := stp_some hF
        refine gw_put hx hb hts hiX5 tyX5 tyX5_ok nmX5 hown hK hP hD hS 0 (wM_0 ad cA σ) rfl 0 (by decide) hw2 (fun _ h9 => h9) rfl (by decide +kernel) (show 0 < 30 from by decide) (wMv_0 ad cA σ _) dX5_confirm_37 e8 (fun H locs hP hD hS => ?_)
        refine lv_aload_n hx hb dX5_confirm_40 rfl (lv_at hl 0 rfl) ?_
        refine va_get (D := D) (ci := 5) (v := .int (σ8.2 0)) (C := RX5) (T := TX5) (N := 30) hx hb hts hiX5 hown hK hP 0 (wM_0 ad cA σ8) rfl 0 (by decide) hw2 (fun _ h9 => h9) rfl dX5_confirm_41 ?_
        refine lv_as (y := 0) (by rw [e8]; rfl) ?_
        refine lv_if_le (tgt := 49) hx hb dX5_confirm_44 (by decide) (fun _ => ?_) (fun h9 => absurd h9 (by decide))
        refine lv_aload_n hx hb dX5_confirm_49 rfl (lv_at hl 0 rfl) ?_
        refine va_get (D := D) (ci := 5) (v := .ref (ad 12)) (C := RX5) (T := TX5) (N := 30) hx hb hts hiX5 hown hK hP 0 (wM_0 ad cA σ8) rfl 16 (by decide) hw3 (fun _ h9 => h9) rfl dX5_confirm_50 ?_
        refine lv_iload_n hx hb dX5_confirm_53 rfl (lv_at hl 1 rfl) ?_
        obtain ⟨hb_9, hF⟩ := chk_some hF
        refine va_iald hx hb hK hP 12 11 (wM_12 ad cA σ8) (tM_12 cA) hb_9 dX5_confirm_54 ?_
        refine lv_istore_n (lv' := [(2, .int (σ8.1 12 (p1).toNatClampNeg)), (0, .ref (ad 0)), (1, .int p1)]) hx hb dX5_confirm_55 rfl hl (by decide) rfl (fun ls hl => ?_)
        refine lv_aload_n hx hb dX5_confirm_56 rfl (lv_at hl 1 rfl) ?_
        refine va_get (D := D) (ci := 5) (v := .ref (ad 13)) (C := RX5) (T := TX5) (N := 30) hx hb hts hiX5 hown hK hP 0 (wM_0 ad cA σ8) rfl 18 (by decide) hw4 (fun _ h9 => h9) rfl dX5_confirm_57 ?_
        refine lv_iload_n hx hb dX5_confirm_60 rfl (lv_at hl 0 rfl) ?_
        refine lv_iconst (v := 2) hx hb dX5_confirm_61 (by decide) ?_
        obtain ⟨hb_10, hF⟩ := chk_some hF
        obtain ⟨σ11, e11, hF⟩ := stp_some hF
        refine gw_iast hx hb hK hP hD hS (wM_13 ad cA σ8) (tM_13 cA) (wMs_13 ad cA σ8) hb_10 dX5_confirm_62 e11 (fun H locs hP hD hS => ?_)
        refine lv_aload_n hx hb dX5_confirm_63 rfl (lv_at hl 1 rfl) ?_
        refine va_get (D := D) (ci := 5) (v := .ref (ad 12)) (C := RX5) (T := TX5) (N := 30) hx hb hts hiX5 hown hK hP 0 (wM_0 ad cA σ11) rfl 16 (by decide) hw3 (fun _ h9 => h9) rfl dX5_confirm_64 ?_
        refine lv_iload_n hx hb dX5_confirm_67 rfl (lv_at hl 2 rfl) ?_
        refine lv_iconst (v := (-1)) hx hb dX5_confirm_68 (by decide) ?_
        obtain ⟨hb_12, hF⟩ := chk_some hF
        obtain ⟨σ13, e13, hF⟩ := stp_some hF
        refine gw_iast hx hb hK hP hD hS (wM_12 ad cA σ11) (tM_12 cA) (wMs_12 ad cA σ11) hb_12 dX5_confirm_69 e13 (fun H locs hP hD hS => ?_)
        refine lv_iload_n hx hb dX5_confirm_70 rfl (lv_at hl 0 rfl) ?_
        exact g_iretN hx hb hr rfl hlocks hP hK hD hS dX5_confirm_71 hF
      · have hF := iteT hF c_7
        refine lv_iconst (v := 2) hx hb dX5_confirm_32 (by decide) ?_
        refine lv_goto (tgt := 37) hx hb dX5_confirm_33 (by decide) ?_
        obtain ⟨σ14, e14, hF⟩ := stp_some hF
        refine gw_put hx hb hts hiX5 tyX5 tyX5_ok nmX5 hown hK hP hD hS 0 (wM_0 ad cA σ) rfl 0 (by decide) hw2 (fun _ h9 => h9) rfl (by decide +kernel) (show 0 < 30 from by decide) (wMv_0 ad cA σ _) dX5_confirm_37 e14 (fun H locs hP hD hS => ?_)
        refine lv_aload_n hx hb dX5_confirm_40 rfl (lv_at hl 0 rfl) ?_
        refine va_get (D := D) (ci := 5) (v := .int (σ14.2 0)) (C := RX5) (T := TX5) (N := 30) hx hb hts hiX5 hown hK hP 0 (wM_0 ad cA σ14) rfl 0 (by decide) hw2 (fun _ h9 => h9) rfl dX5_confirm_41 ?_
        refine lv_as (y := 2) (by rw [e14]; rfl) ?_
        refine lv_if_le (tgt := 49) hx hb dX5_confirm_44 (by decide) (fun h9 => absurd h9 (by decide)) (fun _ => ?_)
        refine lv_iconst (v := 0) hx hb dX5_confirm_47 (by decide) ?_
        exact g_iretN hx hb hr rfl hlocks hP hK hD hS dX5_confirm_48 hF
  · have hF := iteT hF c_2
    refine lv_iconst (v := 1) hx hb dX5_confirm_9 (by decide) ?_
    refine lv_goto (tgt := 37) hx hb dX5_confirm_10 (by decide) ?_
    obtain ⟨σ15, e15, hF⟩ := stp_some hF
    refine gw_put hx hb hts hiX5 tyX5 tyX5_ok nmX5 hown hK hP hD hS 0 (wM_0 ad cA σ) rfl 0 (by decide) hw2 (fun _ h9 => h9) rfl (by decide +kernel) (show 0 < 30 from by decide) (wMv_0 ad cA σ _) dX5_confirm_37 e15 (fun H locs hP hD hS => ?_)
    refine lv_aload_n hx hb dX5_confirm_40 rfl (lv_at hl 0 rfl) ?_
    refine va_get (D := D) (ci := 5) (v := .int (σ15.2 0)) (C := RX5) (T := TX5) (N := 30) hx hb hts hiX5 hown hK hP 0 (wM_0 ad cA σ15) rfl 0 (by decide) hw2 (fun _ h9 => h9) rfl dX5_confirm_41 ?_
    refine lv_as (y := 1) (by rw [e15]; rfl) ?_
    refine lv_if_le (tgt := 49) hx hb dX5_confirm_44 (by decide) (fun h9 => absurd h9 (by decide)) (fun _ => ?_)
    refine lv_iconst (v := 0) hx hb dX5_confirm_47 (by decide) ?_
    exact g_iretN hx hb hr rfl hlocks hP hK hD hS dX5_confirm_48 hF
set_option maxHeartbeats 4000000 in
set_option maxRecDepth 100000 in
theorem tyc_M_isBooking (l : Launch) (D : va_G) (ad : Nat → Nat) (cA : Nat → ClassId) (sz : Nat) (σ : tyS) (p1 : Int32) (r : Int32) (hF : tyf_M_isBooking σ p1 = some r) : gMi l yX5_isBooking wsX5_isBooking ({ frames := 1, cells := 0, slots := 0, locals := 22 } : Room) D (wM ad cA) (tM cA) [.ref (ad 0), .int p1] sz σ r σ := by
  refine Met.ofW (cc := cX5_isBooking) (maxL := 2) (ret := (some .boolean)) (by decide) rfl ?_
  intro p e s m args below meth c s₁ B hml hv
  obtain ⟨rfl, hsz, hP, hK, hD0, hNN⟩ := hv
  have hx := B.exec
  have hb := B.bytes
  have hr := B.returns
  have hts := atoms_spec (ws := wsX5_isBooking) B.pre
  have hown : s.vm.findClass RX5 = some m.cls := findClass_of_methodNamed B.named
  have hlocks := B.notSynchronized
  subst hsz
  have hD := hD0.self (sz := s.heap.size)
  generalize hAe : va_A (wM ad cA σ) s.heap.size = A at hD ⊢
  have hA : ∀ q : Nat, s.heap.size ≤ q → A q := fun q h => by rw [← hAe]; exact Or.inr h
  clear hAe hD0
  have hS : va_S A s.heap s.heap [] := va_S.rf
  have hl := lv_entry ([.ref (ad 0), .int p1]) (n := 2) (Nat.le_of_ble_eq_true rfl)
  rw [lg_entry_eq]
  generalize (lg_sl ([.ref (ad 0), .int p1]) ++ List.replicate (2 - (lg_sl ([.ref (ad 0), .int p1])).length) Slot.unset).toArray = ls at hl ⊢
  have hl : lv_has ls 2 [(0, .ref (ad 0)), (1, .int p1)] := hl
  have hS9 : CallFix p m c cX5_isBooking 2 s _ wsX5_isBooking RX5 := ⟨hx, hb, hml, hown, hts⟩
  have hw0 := hts (.fieldLink RX5 122 "TrunkYardsModel" "bookings" "I") (List.mem_cons_of_mem _ (List.mem_of_getElem? (i := 0) rfl))
  have hiX5 : ∀ w ∈ wsX50, w ∈ wsX5_isBooking := fun w h => List.mem_cons_of_mem _ (List.mem_append_right _ h)
  unfold tyf_M_isBooking at hF
  refine lv_iload_n hx hb dX5_isBooking_0 rfl (lv_at hl 1 rfl) ?_
  refine lv_iconst (v := 0) hx hb dX5_isBooking_1 (by decide) ?_
  refine lv_aload_n hx hb dX5_isBooking_2 rfl (lv_at hl 0 rfl) ?_
  refine va_get (D := D) (ci := 5) (v := .int (σ.2 5)) (C := RX5) (T := TX5) (N := 30) hx hb hts hiX5 hown hK hP 0 (wM_0 ad cA σ) rfl 17 (by decide) hw0 (fun _ h9 => h9) rfl dX5_isBooking_3 ?_
  refine lv_iconst (v := 1) hx hb dX5_isBooking_6 (by decide) ?_
  refine lv_isub hx hb dX5_isBooking_7 ?_
  obtain ⟨r1, er1, hF⟩ := bR_some hF
  refine gc_Si (As := [.int p1, .int 0, .int ((σ.2 5) - 1)]) hS9 (tyc_M_in l D ad cA _ σ p1 0 ((σ.2 5) - 1) r1 er1) (va_cwS 3 hts gX5_isBooking_X5_in rfl rfl rfl hd_X5_in ⟨by decide, by decide⟩) hK hP hD hS hA hNN rfl hl.1 rfl (Nat.le_of_ble_eq_true rfl) dX5_isBooking_8 (fun H locs hP hD hS => ?_)
  obtain ⟨hn_2, hF⟩ := chkb_some hF
  have hn_2 := of_decide_eq_true hn_2
  exact g_iretR hx hb hr (congrArg Value.int hn_2) hlocks hP hK hD hS dX5_isBooking_11 hF
set_option maxHeartbeats 4000000 in
set_option maxRecDepth 100000 in
theorem tyc_M_isOf (l : Launch) (D : va_G) (ad : Nat → Nat) (cA : Nat → ClassId) (sz : Nat) (σ : tyS) (p1 : Int32) (p2 : Int32) (r : Int32) (hF : tyf_M_isOf σ p1 p2 = some r) : gMi l yX5_isOf wsX5_isOf ({ frames := 0, cells := 0, slots := 0, locals := 0 } : Room) D (wM ad cA) (tM cA) [.ref (ad 0), .int p1, .int p2] sz σ r σ := by
  refine Met.ofW (cc := cX5_isOf) (maxL := 3) (ret := (some .boolean)) (by decide) rfl ?_
  intro p e s m args below meth c s₁ B hml hv
  obtain ⟨rfl, hsz, hP, hK, hD0, hNN⟩ := hv
  have hx := B.exec
  have hb := B.bytes
  have hr := B.returns
  have hts := atoms_spec (ws := wsX5_isOf) B.pre
  have hown : s.vm.findClass RX5 = some m.cls := findClass_of_methodNamed B.named
  have hlocks := B.notSynchronized
  subst hsz
  have hD := hD0.self (sz := s.heap.size)
  generalize hAe : va_A (wM ad cA σ) s.heap.size = A at hD ⊢
  have hA : ∀ q : Nat, s.heap.size ≤ q → A q := fun q h => by rw [← hAe]; exact Or.inr h
  clear hAe hD0
  have hS : va_S A s.heap s.heap [] := va_S.rf
  have hl := lv_entry ([.ref (ad 0), .int p1, .int p2]) (n := 3) (Nat.le_of_ble_eq_true rfl)
  rw [lg_entry_eq]
  generalize (lg_sl ([.ref (ad 0), .int p1, .int p2]) ++ List.replicate (3 - (lg_sl ([.ref (ad 0), .int p1, .int p2])).length) Slot.unset).toArray = ls at hl ⊢
  have hl : lv_has ls 3 [(0, .ref (ad 0)), (1, .int p1), (2, .int p2)] := hl
  have hw0 := hts (.fieldLink RX5 53 "TrunkYardsModel" "owner" "[I") (List.mem_cons_of_mem _ (List.mem_of_getElem? (i := 0) rfl))
  have hiX5 : ∀ w ∈ wsX50, w ∈ wsX5_isOf := fun w h => List.mem_cons_of_mem _ (List.mem_append_right _ h)
  have hw2 := hts (.fieldLink RX5 34 "TrunkYardsModel" "customer" "[I") (List.mem_cons_of_mem _ (List.mem_of_getElem? (i := 1) rfl))
  have hw3 := hts (.fieldLink RX5 56 "TrunkYardsModel" "booked" "[I") (List.mem_cons_of_mem _ (List.mem_of_getElem? (i := 2) rfl))
  have hw4 := hts (.fieldLink RX5 37 "TrunkYardsModel" "yard" "[I") (List.mem_cons_of_mem _ (List.mem_of_getElem? (i := 3) rfl))
  unfold tyf_M_isOf at hF
  refine lv_aload_n hx hb dX5_isOf_0 rfl (lv_at hl 0 rfl) ?_
  refine va_get (D := D) (ci := 5) (v := .ref (ad 15)) (C := RX5) (T := TX5) (N := 30) hx hb hts hiX5 hown hK hP 0 (wM_0 ad cA σ) rfl 20 (by decide) hw0 (fun _ h9 => h9) rfl dX5_isOf_1 ?_
  refine lv_iload_n hx hb dX5_isOf_4 rfl (lv_at hl 2 rfl) ?_
  obtain ⟨hb_1, hF⟩ := chk_some hF
  refine va_iald hx hb hK hP 15 14 (wM_15 ad cA σ) (tM_15 cA) hb_1 dX5_isOf_5 ?_
  refine lv_aload_n hx hb dX5_isOf_6 rfl (lv_at hl 0 rfl) ?_
  refine va_get (D := D) (ci := 5) (v := .ref (ad 9)) (C := RX5) (T := TX5) (N := 30) hx hb hts hiX5 hown hK hP 0 (wM_0 ad cA σ) rfl 13 (by decide) hw2 (fun _ h9 => h9) rfl dX5_isOf_7 ?_
  refine lv_iload_n hx hb dX5_isOf_10 rfl (lv_at hl 1 rfl) ?_
  obtain ⟨hb_2, hF⟩ := chk_some hF
  refine va_iald hx hb hK hP 9 8 (wM_9 ad cA σ) (tM_9 cA) hb_2 dX5_isOf_11 ?_
  refine lv_icmp_ne (tgt := 34) hx hb dX5_isOf_12 (by decide) (fun c_3 => ?_) (fun c_3 => ?_)
  · have hF := iteF hF c_3
    refine lv_iconst (v := 0) hx hb dX5_isOf_34 (by decide) ?_
    exact g_iretR hx hb hr rfl hlocks hP hK hD hS dX5_isOf_35 hF
  · have hF := iteT hF c_3
    refine lv_aload_n hx hb dX5_isOf_15 rfl (lv_at hl 0 rfl) ?_
    refine va_get (D := D) (ci := 5) (v := .ref (ad 16)) (C := RX5) (T := TX5) (N := 30) hx hb hts hiX5 hown hK hP 0 (wM_0 ad cA σ) rfl 21 (by decide) hw3 (fun _ h9 => h9) rfl dX5_isOf_16 ?_
    refine lv_iload_n hx hb dX5_isOf_19 rfl (lv_at hl 2 rfl) ?_
    obtain ⟨hb_4, hF⟩ := chk_some hF
    refine va_iald hx hb hK hP 16 15 (wM_16 ad cA σ) (tM_16 cA) hb_4 dX5_isOf_20 ?_
    refine lv_aload_n hx hb dX5_isOf_21 rfl (lv_at hl 0 rfl) ?_
    refine va_get (D := D) (ci := 5) (v := .ref (ad 10)) (C := RX5) (T := TX5) (N := 30) hx hb hts hiX5 hown hK hP 0 (wM_0 ad cA σ) rfl 14 (by decide) hw4 (fun _ h9 => h9) rfl dX5_isOf_22 ?_
    refine lv_iload_n hx hb dX5_isOf_25 rfl (lv_at hl 1 rfl) ?_
    obtain ⟨hb_5, hF⟩ := chk_some hF
    refine va_iald hx hb hK hP 10 9 (wM_10 ad cA σ) (tM_10 cA) hb_5 dX5_isOf_26 ?_
    refine lv_icmp_ne (tgt := 34) hx hb dX5_isOf_27 (by decide) (fun c_6 => ?_) (fun c_6 => ?_)
    · have hF := iteF hF c_6
      refine lv_iconst (v := 0) hx hb dX5_isOf_34 (by decide) ?_
      exact g_iretR hx hb hr rfl hlocks hP hK hD hS dX5_isOf_35 hF
    · have hF := iteT hF c_6
      refine lv_iconst (v := 1) hx hb dX5_isOf_30 (by decide) ?_
      refine lv_goto (tgt := 35) hx hb dX5_isOf_31 (by decide) ?_
      exact g_iretR hx hb hr rfl hlocks hP hK hD hS dX5_isOf_35 hF
set_option maxHeartbeats 4000000 in
set_option maxRecDepth 100000 in
theorem tyc_M_resume (l : Launch) (D : va_G) (ad : Nat → Nat) (cA : Nat → ClassId) (sz : Nat) (σ : tyS) (p1 : Int32) (p2 : Int32) (r : Int32) (τ : tyS) (hF : tyf_M_resume σ p1 p2 = some (r, τ)) : gMi l yX5_resume wsX5_resume ({ frames := 2, cells := 0, slots := 0, locals := 43 } : Room) D (wM ad cA) (tM cA) [.ref (ad 0), .int p1, .int p2] sz σ r τ := by
  refine Met.ofW (cc := cX5_resume) (maxL := 3) (ret := (some .int)) (by decide) rfl ?_
  intro p e s m args below meth c s₁ B hml hv
  obtain ⟨rfl, hsz, hP, hK, hD0, hNN⟩ := hv
  have hx := B.exec
  have hb := B.bytes
  have hr := B.returns
  have hts := atoms_spec (ws := wsX5_resume) B.pre
  have hown : s.vm.findClass RX5 = some m.cls := findClass_of_methodNamed B.named
  have hlocks := B.notSynchronized
  subst hsz
  have hD := hD0.self (sz := s.heap.size)
  generalize hAe : va_A (wM ad cA σ) s.heap.size = A at hD ⊢
  have hA : ∀ q : Nat, s.heap.size ≤ q → A q := fun q h => by rw [← hAe]; exact Or.inr h
  clear hAe hD0
  have hS : va_S A s.heap s.heap [] := va_S.rf
  have hl := lv_entry ([.ref (ad 0), .int p1, .int p2]) (n := 3) (Nat.le_of_ble_eq_true rfl)
  rw [lg_entry_eq]
  generalize (lg_sl ([.ref (ad 0), .int p1, .int p2]) ++ List.replicate (3 - (lg_sl ([.ref (ad 0), .int p1, .int p2])).length) Slot.unset).toArray = ls at hl ⊢
  have hl : lv_has ls 3 [(0, .ref (ad 0)), (1, .int p1), (2, .int p2)] := hl
  have hS9 : CallFix p m c cX5_resume 3 s _ wsX5_resume RX5 := ⟨hx, hb, hml, hown, hts⟩
  have hw0 := hts (.fieldLink RX5 80 "TrunkYardsModel" "thrown" "I") (List.mem_cons_of_mem _ (List.mem_of_getElem? (i := 0) rfl))
  have hiX5 : ∀ w ∈ wsX50, w ∈ wsX5_resume := fun w h => List.mem_cons_of_mem _ (List.mem_append_right _ h)
  have hw2 := hts (.fieldLink RX5 40 "TrunkYardsModel" "goesOn" "[Z") (List.mem_cons_of_mem _ (List.mem_of_getElem? (i := 1) rfl))
  have hw3 := hts (.fieldLink RX5 44 "TrunkYardsModel" "open" "[I") (List.mem_cons_of_mem _ (List.mem_of_getElem? (i := 2) rfl))
  have hw4 := hts (.fieldLink RX5 47 "TrunkYardsModel" "state" "[I") (List.mem_cons_of_mem _ (List.mem_of_getElem? (i := 3) rfl))
  have hw5 := hts (.fieldLink RX5 62 "TrunkYardsModel" "many" "[I") (List.mem_cons_of_mem _ (List.mem_of_getElem? (i := 4) rfl))
  unfold tyf_M_resume at hF
  refine lv_aload_n hx hb dX5_resume_0 rfl (lv_at hl 0 rfl) ?_
  refine lv_aload_n hx hb dX5_resume_1 rfl (lv_at hl 0 rfl) ?_
  refine lv_iload_n hx hb dX5_resume_2 rfl (lv_at hl 1 rfl) ?_
  obtain ⟨r1, er1, hF⟩ := bR_some hF
  refine gc_Vi (As := [.int p1]) hS9 (tyc_M_isCall l D ad cA _ σ p1 r1 er1) (cwV 1 hts gX5_resume_X5_isCall rfl rfl rfl hd_X5_isCall ⟨by decide, by decide⟩) hK hP hD hS hA hNN (ci := 5) (q0 := 0) (N := 30) rfl (wM_0 ad cA σ) rfl hl.1 rfl (Nat.le_of_ble_eq_true rfl) dX5_resume_3 (fun H locs hP hD hS => ?_)
  refine lv_if_eq (tgt := 21) hx hb dX5_resume_6 (by decide) (fun c_2 => ?_) (fun c_2 => ?_)
  · have hF := iteT hF c_2
    refine lv_iconst (v := 1) hx hb dX5_resume_21 (by decide) ?_
    obtain ⟨σ3, e3, hF⟩ := stp_some hF
    refine gw_put hx hb hts hiX5 tyX5 tyX5_ok nmX5 hown hK hP hD hS 0 (wM_0 ad cA σ) rfl 0 (by decide) hw0 (fun _ h9 => h9) rfl (by decide +kernel) (show 0 < 30 from by decide) (wMv_0 ad cA σ _) dX5_resume_22 e3 (fun H locs hP hD hS => ?_)
    refine lv_aload_n hx hb dX5_resume_25 rfl (lv_at hl 0 rfl) ?_
    refine va_get (D := D) (ci := 5) (v := .int (σ3.2 0)) (C := RX5) (T := TX5) (N := 30) hx hb hts hiX5 hown hK hP 0 (wM_0 ad cA σ3) rfl 0 (by decide) hw0 (fun _ h9 => h9) rfl dX5_resume_26 ?_
    refine lv_as (y := 1) (by rw [e3]; rfl) ?_
    refine lv_if_ne (tgt := 79) hx hb dX5_resume_29 (by decide) (fun _ => ?_) (fun h9 => absurd h9 (by decide))
    refine lv_aload_n hx hb dX5_resume_79 rfl (lv_at hl 0 rfl) ?_
    refine va_get (D := D) (ci := 5) (v := .int (σ3.2 0)) (C := RX5) (T := TX5) (N := 30) hx hb hts hiX5 hown hK hP 0 (wM_0 ad cA σ3) rfl 0 (by decide) hw0 (fun _ h9 => h9) rfl dX5_resume_80 ?_
    refine lv_as (y := 1) (by rw [e3]; rfl) ?_
    refine lv_if_le (tgt := 88) hx hb dX5_resume_83 (by decide) (fun h9 => absurd h9 (by decide)) (fun _ => ?_)
    refine lv_iconst (v := 0) hx hb dX5_resume_86 (by decide) ?_
    exact g_iretN hx hb hr rfl hlocks hP hK hD hS dX5_resume_87 hF
  · have hF := iteF hF c_2
    refine lv_aload_n hx hb dX5_resume_9 rfl (lv_at hl 0 rfl) ?_
    refine lv_iload_n hx hb dX5_resume_10 rfl (lv_at hl 2 rfl) ?_
    obtain ⟨r4, er4, hF⟩ := bR_some hF
    refine gc_Vi (As := [.int p2]) hS9 (tyc_M_isBooking l D ad cA _ σ p2 r4 er4) (cwV 1 hts gX5_resume_X5_isBooking rfl rfl rfl hd_X5_isBooking ⟨by decide, by decide⟩) hK hP hD hS hA hNN (ci := 5) (q0 := 0) (N := 30) rfl (wM_0 ad cA σ) rfl hl.1 rfl (Nat.le_of_ble_eq_true rfl) dX5_resume_11 (fun H locs hP hD hS => ?_)
    refine lv_if_eq (tgt := 21) hx hb dX5_resume_14 (by decide) (fun c_5 => ?_) (fun c_5 => ?_)
    · have hF := iteT hF c_5
      refine lv_iconst (v := 1) hx hb dX5_resume_21 (by decide) ?_
      obtain ⟨σ6, e6, hF⟩ := stp_some hF
      refine gw_put hx hb hts hiX5 tyX5 tyX5_ok nmX5 hown hK hP hD hS 0 (wM_0 ad cA σ) rfl 0 (by decide) hw0 (fun _ h9 => h9) rfl (by decide +kernel) (show 0 < 30 from by decide) (wMv_0 ad cA σ _) dX5_resume_22 e6 (fun H locs hP hD hS => ?_)
      refine lv_aload_n hx hb dX5_resume_25 rfl (lv_at hl 0 rfl) ?_
      refine va_get (D := D) (ci := 5) (v := .int (σ6.2 0)) (C := RX5) (T := TX5) (N := 30) hx hb hts hiX5 hown hK hP 0 (wM_0 ad cA σ6) rfl 0 (by decide) hw0 (fun _ h9 => h9) rfl dX5_resume_26 ?_
      refine lv_as (y := 1) (by rw [e6]; rfl) ?_
      refine lv_if_ne (tgt := 79) hx hb dX5_resume_29 (by decide) (fun _ => ?_) (fun h9 => absurd h9 (by decide))
      refine lv_aload_n hx hb dX5_resume_79 rfl (lv_at hl 0 rfl) ?_
      refine va_get (D := D) (ci := 5) (v := .int (σ6.2 0)) (C := RX5) (T := TX5) (N := 30) hx hb hts hiX5 hown hK hP 0 (wM_0 ad cA σ6) rfl 0 (by decide) hw0 (fun _ h9 => h9) rfl dX5_resume_80 ?_
      refine lv_as (y := 1) (by rw [e6]; rfl) ?_
      refine lv_if_le (tgt := 88) hx hb dX5_resume_83 (by decide) (fun h9 => absurd h9 (by decide)) (fun _ => ?_)
      refine lv_iconst (v := 0) hx hb dX5_resume_86 (by decide) ?_
      exact g_iretN hx hb hr rfl hlocks hP hK hD hS dX5_resume_87 hF
    · have hF := iteF hF c_5
      refine lv_iconst (v := 0) hx hb dX5_resume_17 (by decide) ?_
      refine lv_goto (tgt := 22) hx hb dX5_resume_18 (by decide) ?_
      obtain ⟨σ7, e7, hF⟩ := stp_some hF
      refine gw_put hx hb hts hiX5 tyX5 tyX5_ok nmX5 hown hK hP hD hS 0 (wM_0 ad cA σ) rfl 0 (by decide) hw0 (fun _ h9 => h9) rfl (by decide +kernel) (show 0 < 30 from by decide) (wMv_0 ad cA σ _) dX5_resume_22 e7 (fun H locs hP hD hS => ?_)
      refine lv_aload_n hx hb dX5_resume_25 rfl (lv_at hl 0 rfl) ?_
      refine va_get (D := D) (ci := 5) (v := .int (σ7.2 0)) (C := RX5) (T := TX5) (N := 30) hx hb hts hiX5 hown hK hP 0 (wM_0 ad cA σ7) rfl 0 (by decide) hw0 (fun _ h9 => h9) rfl dX5_resume_26 ?_
      refine lv_as (y := 0) (by rw [e7]; rfl) ?_
      refine lv_if_ne (tgt := 79) hx hb dX5_resume_29 (by decide) (fun h9 => absurd h9 (by decide)) (fun _ => ?_)
      refine lv_aload_n hx hb dX5_resume_32 rfl (lv_at hl 0 rfl) ?_
      refine lv_aload_n hx hb dX5_resume_33 rfl (lv_at hl 0 rfl) ?_
      refine va_get (D := D) (ci := 5) (v := .ref (ad 11)) (C := RX5) (T := TX5) (N := 30) hx hb hts hiX5 hown hK hP 0 (wM_0 ad cA σ7) rfl 15 (by decide) hw2 (fun _ h9 => h9) rfl dX5_resume_34 ?_
      refine lv_iload_n hx hb dX5_resume_37 rfl (lv_at hl 1 rfl) ?_
      obtain ⟨hb_8, hF⟩ := chk_some hF
      refine va_zald hx hb hK hP 11 10 (wM_11 ad cA σ7) (tM_11 cA) hb_8 dX5_resume_38 ?_
      refine lv_if_eq (tgt := 75) hx hb dX5_resume_39 (by decide) (fun c_9 => ?_) (fun c_9 => ?_)
      · have hF := iteT hF c_9
        refine lv_iconst (v := 2) hx hb dX5_resume_75 (by decide) ?_
        obtain ⟨σ10, e10, hF⟩ := stp_some hF
        refine gw_put hx hb hts hiX5 tyX5 tyX5_ok nmX5 hown hK hP hD hS 0 (wM_0 ad cA σ7) rfl 0 (by decide) hw0 (fun _ h9 => h9) rfl (by decide +kernel) (show 0 < 30 from by decide) (wMv_0 ad cA σ7 _) dX5_resume_76 e10 (fun H locs hP hD hS => ?_)
        refine lv_aload_n hx hb dX5_resume_79 rfl (lv_at hl 0 rfl) ?_
        refine va_get (D := D) (ci := 5) (v := .int (σ10.2 0)) (C := RX5) (T := TX5) (N := 30) hx hb hts hiX5 hown hK hP 0 (wM_0 ad cA σ10) rfl 0 (by decide) hw0 (fun _ h9 => h9) rfl dX5_resume_80 ?_
        refine lv_as (y := 2) (by rw [e10]; rfl) ?_
        refine lv_if_le (tgt := 88) hx hb dX5_resume_83 (by decide) (fun h9 => absurd h9 (by decide)) (fun _ => ?_)
        refine lv_iconst (v := 0) hx hb dX5_resume_86 (by decide) ?_
        exact g_iretN hx hb hr rfl hlocks hP hK hD hS dX5_resume_87 hF
      · have hF := iteF hF c_9
        refine lv_aload_n hx hb dX5_resume_42 rfl (lv_at hl 0 rfl) ?_
        refine va_get (D := D) (ci := 5) (v := .ref (ad 12)) (C := RX5) (T := TX5) (N := 30) hx hb hts hiX5 hown hK hP 0 (wM_0 ad cA σ7) rfl 16 (by decide) hw3 (fun _ h9 => h9) rfl dX5_resume_43 ?_
        refine lv_iload_n hx hb dX5_resume_46 rfl (lv_at hl 1 rfl) ?_
        obtain ⟨hb_11, hF⟩ := chk_some hF
        refine va_iald hx hb hK hP 12 11 (wM_12 ad cA σ7) (tM_12 cA) hb_11 dX5_resume_47 ?_
        refine lv_iconst (v := (-1)) hx hb dX5_resume_48 (by decide) ?_
        refine lv_icmp_ne (tgt := 75) hx hb dX5_resume_49 (by decide) (fun c_12 => ?_) (fun c_12 => ?_)
        · have hF := iteF hF c_12
          refine lv_iconst (v := 2) hx hb dX5_resume_75 (by decide) ?_
          obtain ⟨σ13, e13, hF⟩ := stp_some hF
          refine gw_put hx hb hts hiX5 tyX5 tyX5_ok nmX5 hown hK hP hD hS 0 (wM_0 ad cA σ7) rfl 0 (by decide) hw0 (fun _ h9 => h9) rfl (by decide +kernel) (show 0 < 30 from by decide) (wMv_0 ad cA σ7 _) dX5_resume_76 e13 (fun H locs hP hD hS => ?_)
          refine lv_aload_n hx hb dX5_resume_79 rfl (lv_at hl 0 rfl) ?_
          refine va_get (D := D) (ci := 5) (v := .int (σ13.2 0)) (C := RX5) (T := TX5) (N := 30) hx hb hts hiX5 hown hK hP 0 (wM_0 ad cA σ13) rfl 0 (by decide) hw0 (fun _ h9 => h9) rfl dX5_resume_80 ?_
          refine lv_as (y := 2) (by rw [e13]; rfl) ?_
          refine lv_if_le (tgt := 88) hx hb dX5_resume_83 (by decide) (fun h9 => absurd h9 (by decide)) (fun _ => ?_)
          refine lv_iconst (v := 0) hx hb dX5_resume_86 (by decide) ?_
          exact g_iretN hx hb hr rfl hlocks hP hK hD hS dX5_resume_87 hF
        · have hF := iteT hF c_12
          refine lv_aload_n hx hb dX5_resume_52 rfl (lv_at hl 0 rfl) ?_
          refine va_get (D := D) (ci := 5) (v := .ref (ad 13)) (C := RX5) (T := TX5) (N := 30) hx hb hts hiX5 hown hK hP 0 (wM_0 ad cA σ7) rfl 18 (by decide) hw4 (fun _ h9 => h9) rfl dX5_resume_53 ?_
          refine lv_iload_n hx hb dX5_resume_56 rfl (lv_at hl 2 rfl) ?_
          obtain ⟨hb_14, hF⟩ := chk_some hF
          refine va_iald hx hb hK hP 13 12 (wM_13 ad cA σ7) (tM_13 cA) hb_14 dX5_resume_57 ?_
          refine lv_iconst (v := 1) hx hb dX5_resume_58 (by decide) ?_
          refine lv_icmp_ne (tgt := 75) hx hb dX5_resume_59 (by decide) (fun c_15 => ?_) (fun c_15 => ?_)
          · have hF := iteF hF c_15
            refine lv_iconst (v := 2) hx hb dX5_resume_75 (by decide) ?_
            obtain ⟨σ16, e16, hF⟩ := stp_some hF
            refine gw_put hx hb hts hiX5 tyX5 tyX5_ok nmX5 hown hK hP hD hS 0 (wM_0 ad cA σ7) rfl 0 (by decide) hw0 (fun _ h9 => h9) rfl (by decide +kernel) (show 0 < 30 from by decide) (wMv_0 ad cA σ7 _) dX5_resume_76 e16 (fun H locs hP hD hS => ?_)
            refine lv_aload_n hx hb dX5_resume_79 rfl (lv_at hl 0 rfl) ?_
            refine va_get (D := D) (ci := 5) (v := .int (σ16.2 0)) (C := RX5) (T := TX5) (N := 30) hx hb hts hiX5 hown hK hP 0 (wM_0 ad cA σ16) rfl 0 (by decide) hw0 (fun _ h9 => h9) rfl dX5_resume_80 ?_
            refine lv_as (y := 2) (by rw [e16]; rfl) ?_
            refine lv_if_le (tgt := 88) hx hb dX5_resume_83 (by decide) (fun h9 => absurd h9 (by decide)) (fun _ => ?_)
            refine lv_iconst (v := 0) hx hb dX5_resume_86 (by decide) ?_
            exact g_iretN hx hb hr rfl hlocks hP hK hD hS dX5_resume_87 hF
          · have hF := iteT hF c_15
            refine lv_aload_n hx hb dX5_resume_62 rfl (lv_at hl 0 rfl) ?_
            refine lv_iload_n hx hb dX5_resume_63 rfl (lv_at hl 1 rfl) ?_
            refine lv_iload_n hx hb dX5_resume_64 rfl (lv_at hl 2 rfl) ?_
            obtain ⟨r17, er17, hF⟩ := bR_some hF
            refine gc_Vi (As := [.int p1, .int p2]) hS9 (tyc_M_isOf l D ad cA _ σ7 p1 p2 r17 er17) (cwV 2 hts gX5_resume_X5_isOf rfl rfl rfl hd_X5_isOf ⟨by decide, by decide⟩) hK hP hD hS hA hNN (ci := 5) (q0 := 0) (N := 30) rfl (wM_0 ad cA σ7) rfl hl.1 rfl (Nat.le_of_ble_eq_true rfl) dX5_resume_65 (fun H locs hP hD hS => ?_)
            refine lv_if_eq (tgt := 75) hx hb dX5_resume_68 (by decide) (fun c_18 => ?_) (fun c_18 => ?_)
            · have hF := iteT hF c_18
              refine lv_iconst (v := 2) hx hb dX5_resume_75 (by decide) ?_
              obtain ⟨σ19, e19, hF⟩ := stp_some hF
              refine gw_put hx hb hts hiX5 tyX5 tyX5_ok nmX5 hown hK hP hD hS 0 (wM_0 ad cA σ7) rfl 0 (by decide) hw0 (fun _ h9 => h9) rfl (by decide +kernel) (show 0 < 30 from by decide) (wMv_0 ad cA σ7 _) dX5_resume_76 e19 (fun H locs hP hD hS => ?_)
              refine lv_aload_n hx hb dX5_resume_79 rfl (lv_at hl 0 rfl) ?_
              refine va_get (D := D) (ci := 5) (v := .int (σ19.2 0)) (C := RX5) (T := TX5) (N := 30) hx hb hts hiX5 hown hK hP 0 (wM_0 ad cA σ19) rfl 0 (by decide) hw0 (fun _ h9 => h9) rfl dX5_resume_80 ?_
              refine lv_as (y := 2) (by rw [e19]; rfl) ?_
              refine lv_if_le (tgt := 88) hx hb dX5_resume_83 (by decide) (fun h9 => absurd h9 (by decide)) (fun _ => ?_)
              refine lv_iconst (v := 0) hx hb dX5_resume_86 (by decide) ?_
              exact g_iretN hx hb hr rfl hlocks hP hK hD hS dX5_resume_87 hF
            · have hF := iteF hF c_18
              refine lv_iconst (v := 0) hx hb dX5_resume_71 (by decide) ?_
              refine lv_goto (tgt := 76) hx hb dX5_resume_72 (by decide) ?_
              obtain ⟨σ20, e20, hF⟩ := stp_some hF
              refine gw_put hx hb hts hiX5 tyX5 tyX5_ok nmX5 hown hK hP hD hS 0 (wM_0 ad cA σ7) rfl 0 (by decide) hw0 (fun _ h9 => h9) rfl (by decide +kernel) (show 0 < 30 from by decide) (wMv_0 ad cA σ7 _) dX5_resume_76 e20 (fun H locs hP hD hS => ?_)
              refine lv_aload_n hx hb dX5_resume_79 rfl (lv_at hl 0 rfl) ?_
              refine va_get (D := D) (ci := 5) (v := .int (σ20.2 0)) (C := RX5) (T := TX5) (N := 30) hx hb hts hiX5 hown hK hP 0 (wM_0 ad cA σ20) rfl 0 (by decide) hw0 (fun _ h9 => h9) rfl dX5_resume_80 ?_
              refine lv_as (y := 0) (by rw [e20]; rfl) ?_
              refine lv_if_le (tgt := 88) hx hb dX5_resume_83 (by decide) (fun _ => ?_) (fun h9 => absurd h9 (by decide))
              refine lv_aload_n hx hb dX5_resume_88 rfl (lv_at hl 0 rfl) ?_
              refine va_get (D := D) (ci := 5) (v := .ref (ad 13)) (C := RX5) (T := TX5) (N := 30) hx hb hts hiX5 hown hK hP 0 (wM_0 ad cA σ20) rfl 18 (by decide) hw4 (fun _ h9 => h9) rfl dX5_resume_89 ?_
              refine lv_iload_n hx hb dX5_resume_92 rfl (lv_at hl 2 rfl) ?_
              refine lv_iconst (v := 0) hx hb dX5_resume_93 (by decide) ?_
              obtain ⟨hb_21, hF⟩ := chk_some hF
              obtain ⟨σ22, e22, hF⟩ := stp_some hF
              refine gw_iast hx hb hK hP hD hS (wM_13 ad cA σ20) (tM_13 cA) (wMs_13 ad cA σ20) hb_21 dX5_resume_94 e22 (fun H locs hP hD hS => ?_)
              refine lv_aload_n hx hb dX5_resume_95 rfl (lv_at hl 0 rfl) ?_
              refine va_get (D := D) (ci := 5) (v := .ref (ad 12)) (C := RX5) (T := TX5) (N := 30) hx hb hts hiX5 hown hK hP 0 (wM_0 ad cA σ22) rfl 16 (by decide) hw3 (fun _ h9 => h9) rfl dX5_resume_96 ?_
              refine lv_iload_n hx hb dX5_resume_99 rfl (lv_at hl 1 rfl) ?_
              refine lv_iload_n hx hb dX5_resume_100 rfl (lv_at hl 2 rfl) ?_
              obtain ⟨hb_23, hF⟩ := chk_some hF
              obtain ⟨σ24, e24, hF⟩ := stp_some hF
              refine gw_iast hx hb hK hP hD hS (wM_12 ad cA σ22) (tM_12 cA) (wMs_12 ad cA σ22) hb_23 dX5_resume_101 e24 (fun H locs hP hD hS => ?_)
              refine lv_aload_n hx hb dX5_resume_102 rfl (lv_at hl 0 rfl) ?_
              refine va_get (D := D) (ci := 5) (v := .ref (ad 18)) (C := RX5) (T := TX5) (N := 30) hx hb hts hiX5 hown hK hP 0 (wM_0 ad cA σ24) rfl 23 (by decide) hw5 (fun _ h9 => h9) rfl dX5_resume_103 ?_
              refine lv_iload_n hx hb dX5_resume_106 rfl (lv_at hl 2 rfl) ?_
              obtain ⟨hb_25, hF⟩ := chk_some hF
              refine va_iald hx hb hK hP 18 17 (wM_18 ad cA σ24) (tM_18 cA) hb_25 dX5_resume_107 ?_
              exact g_iretN hx hb hr rfl hlocks hP hK hD hS dX5_resume_108 hF
