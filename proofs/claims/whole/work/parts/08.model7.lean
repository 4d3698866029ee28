set_option maxHeartbeats 4000000 in
set_option maxRecDepth 100000 in
theorem tyc_M_canDepart (l : Launch) (D : va_G) (ad : Nat → Nat) (cA : Nat → ClassId) (sz : Nat) (σ : tyS) (p1 : Int32) (p2 : Int32) (r : Int32) (hF : tyf_M_canDepart σ p1 p2 = some r) : gMi l yX5_canDepart wsX5_canDepart ({ frames := 1, cells := 0, slots := 0, locals := 24 } : Room) D (wM ad cA) (tM cA) [.ref (ad 0), .int p1, .int p2] sz σ r σ := by
  refine Met.ofW (cc := cX5_canDepart) (maxL := 7) (ret := (some .boolean)) (by decide) rfl ?_
  intro p e s m args below meth c s₁ B hml hv
  obtain ⟨rfl, hsz, hP, hK, hD0, hNN⟩ := hv
  have hx := B.exec
  have hb := B.bytes
  have hr := B.returns
  have hts := atoms_spec (ws := wsX5_canDepart) B.pre
  have hown : s.vm.findClass RX5 = some m.cls := findClass_of_methodNamed B.named
  have hlocks := B.notSynchronized
  subst hsz
  have hD := hD0.self (sz := s.heap.size)
  generalize hAe : va_A (wM ad cA σ) s.heap.size = A at hD ⊢
  have hA : ∀ q : Nat, s.heap.size ≤ q → A q := fun q h => by rw [← hAe]; exact Or.inr h
  clear hAe hD0
  have hS : va_S A s.heap s.heap [] := va_S.rf
  have hl := lv_entry ([.ref (ad 0), .int p1, .int p2]) (n := 7) (Nat.le_of_ble_eq_true rfl)
  rw [lg_entry_eq]
  generalize (lg_sl ([.ref (ad 0), .int p1, .int p2]) ++ List.replicate (7 - (lg_sl ([.ref (ad 0), .int p1, .int p2])).length) Slot.unset).toArray = ls at hl ⊢
  have hl : lv_has ls 7 [(0, .ref (ad 0)), (1, .int p1), (2, .int p2)] := hl
  have hS9 : CallFix p m c cX5_canDepart 7 s _ wsX5_canDepart RX5 := ⟨hx, hb, hml, hown, hts⟩
  have hw0 := hts (.fieldLink RX5 19 "TrunkYardsModel" "on" "[I") (List.mem_cons_of_mem _ (List.mem_of_getElem? (i := 0) rfl))
  have hiX5 : ∀ w ∈ wsX50, w ∈ wsX5_canDepart := fun w h => List.mem_cons_of_mem _ (List.mem_append_right _ h)
  have hw2 := hts (.fieldLink RX5 16 "TrunkYardsModel" "booking" "[I") (List.mem_cons_of_mem _ (List.mem_of_getElem? (i := 1) rfl))
  have hw3 := hts (.fieldLink RX5 22 "TrunkYardsModel" "track" "[I") (List.mem_cons_of_mem _ (List.mem_of_getElem? (i := 2) rfl))
  have hw4 := hts (.fieldLink RX5 47 "TrunkYardsModel" "state" "[I") (List.mem_cons_of_mem _ (List.mem_of_getElem? (i := 3) rfl))
  unfold tyf_M_canDepart at hF
  refine lv_iconst (v := 5) hx hb dX5_canDepart_0 (by decide) ?_
  refine lv_iload_n hx hb dX5_canDepart_1 rfl (lv_at hl 1 rfl) ?_
  refine lv_imul hx hb dX5_canDepart_2 ?_
  refine lv_iload_n hx hb dX5_canDepart_3 rfl (lv_at hl 2 rfl) ?_
  refine lv_iadd hx hb dX5_canDepart_4 ?_
  refine lv_istore_n (lv' := [(3, .int ((5 * p1) + p2)), (0, .ref (ad 0)), (1, .int p1), (2, .int p2)]) hx hb dX5_canDepart_5 rfl hl (by decide) rfl (fun ls hl => ?_)
  refine lv_aload_n hx hb dX5_canDepart_6 rfl (lv_at hl 1 rfl) ?_
  refine va_get (D := D) (ci := 5) (v := .ref (ad 4)) (C := RX5) (T := TX5) (N := 30) hx hb hts hiX5 hown hK hP 0 (wM_0 ad cA σ) rfl 6 (by decide) hw0 (fun _ h9 => h9) rfl dX5_canDepart_7 ?_
  refine lv_iload_n hx hb dX5_canDepart_10 rfl (lv_at hl 0 rfl) ?_
  obtain ⟨hb_1, hF⟩ := chk_some hF
  refine va_iald hx hb hK hP 4 3 (wM_4 ad cA σ) (tM_4 cA) hb_1 dX5_canDepart_11 ?_
  refine lv_if_le (tgt := 19) hx hb dX5_canDepart_12 (by decide) (fun c_2 => ?_) (fun c_2 => ?_)
  · have hF := iteT hF c_2
    refine lv_iconst (v := 0) hx hb dX5_canDepart_19 (by decide) ?_
    refine lv_istore (lv' := [(4, .int 0), (3, .int ((5 * p1) + p2)), (0, .ref (ad 0)), (1, .int p1), (2, .int p2)]) hx hb dX5_canDepart_20 hl (by decide) rfl (fun ls hl => ?_)
    refine lv_iconst (v := 0) hx hb dX5_canDepart_22 (by decide) ?_
    refine lv_istore (lv' := [(5, .int 0), (4, .int 0), (3, .int ((5 * p1) + p2)), (0, .ref (ad 0)), (1, .int p1), (2, .int p2)]) hx hb dX5_canDepart_23 hl (by decide) rfl (fun ls hl => ?_)
    have lp25 : ∀ (k : Int32 → Int32 → Int32 → Int32 → Int32 → Option Int32), (∀ (x1 : Int32) (x2 : Int32) (x3 : Int32) (x4 : Int32) (x5 : Int32) , k x1 x2 x3 x4 x5 = some r → ∀ (H : Heap) (locs : List Loc) (ls : Array Slot), va_P D vwCl (wM ad cA σ) H → va_D A (wM ad cA σ) → va_S A s.heap H locs → lv_has ls 7 [(0, .ref (ad 0)), (1, .int x1), (2, .int x2), (3, .int x3), (4, .int x4), (5, .int x5)] → W p l e (headSpec wsX5_canDepart ({ frames := 1, cells := 0, slots := 0, locals := 24 } : Room)).room s m #[.ref (ad 0), .int p1, .int p2] below meth c H locs 0 0 (MQ below (gQi D (wM ad cA) (tM cA) A r σ) #[.ref (ad 0), .int p1, .int p2] s 0 0 A) (F0 m 105 ls [])) → ∀ (n : Nat), ∀ (x1 : Int32) (x2 : Int32) (x3 : Int32) (x4 : Int32) (x5 : Int32) , tyl_M_canDepart_25 σ k n x1 x2 x3 x4 x5 = some r → ∀ (H : Heap) (locs : List Loc) (ls : Array Slot), va_P D vwCl (wM ad cA σ) H → va_D A (wM ad cA σ) → va_S A s.heap H locs → lv_has ls 7 [(0, .ref (ad 0)), (1, .int x1), (2, .int x2), (3, .int x3), (4, .int x4), (5, .int x5)] → W p l e (headSpec wsX5_canDepart ({ frames := 1, cells := 0, slots := 0, locals := 24 } : Room)).room s m #[.ref (ad 0), .int p1, .int p2] below meth c H locs 0 0 (MQ below (gQi D (wM ad cA) (tM cA) A r σ) #[.ref (ad 0), .int p1, .int p2] s 0 0 A) (F0 m 25 ls []) := by
      intro k hk n
      induction n with
      | zero =>
        intro x1 x2 x3 x4 x5 hF
        exact absurd hF (fun h => nomatch h)
      | succ n ih =>
        intro x1 x2 x3 x4 x5 hF H locs ls hP hD hS hl
        have hF : tyb_M_canDepart_25 σ k (tyl_M_canDepart_25 σ k n) x1 x2 x3 x4 x5 = some r := hF
        unfold tyb_M_canDepart_25 at hF
        refine lv_iload hx hb dX5_canDepart_25 (lv_at hl 5 rfl) ?_
        refine lv_aload_n hx hb dX5_canDepart_27 rfl (lv_at hl 0 rfl) ?_
        refine va_get (D := D) (ci := 5) (v := .ref (ad 4)) (C := RX5) (T := TX5) (N := 30) hx hb hts hiX5 hown hK hP 0 (wM_0 ad cA σ) rfl 6 (by decide) hw0 (fun _ h9 => h9) rfl dX5_canDepart_28 ?_
        refine lv_iload_n hx hb dX5_canDepart_31 rfl (lv_at hl 3 rfl) ?_
        obtain ⟨hb_3, hF⟩ := chk_some hF
        refine va_iald hx hb hK hP 4 3 (wM_4 ad cA σ) (tM_4 cA) hb_3 dX5_canDepart_32 ?_
        refine lv_icmp_ge (tgt := 105) hx hb dX5_canDepart_33 (by decide) (fun c_4 => ?_) (fun c_4 => ?_)
        · have hF := iteT hF c_4
          exact hk  x1 x2 x3 x4 x5 hF _ _ _ hP hD hS (lv_sub hl [0, 1, 2, 3, 4, 5] rfl)
        · have hF := iteF hF c_4
          refine lv_iload hx hb dX5_canDepart_36 (lv_at hl 4 rfl) ?_
          refine lv_if_eq (tgt := 105) hx hb dX5_canDepart_38 (by decide) (fun c_5 => ?_) (fun c_5 => ?_)
          · have hF := iteT hF c_5
            exact hk  x1 x2 x3 x4 x5 hF _ _ _ hP hD hS (lv_sub hl [0, 1, 2, 3, 4, 5] rfl)
          · have hF := iteF hF c_5
            refine lv_aload_n hx hb dX5_canDepart_41 rfl (lv_at hl 0 rfl) ?_
            refine va_get (D := D) (ci := 5) (v := .ref (ad 3)) (C := RX5) (T := TX5) (N := 30) hx hb hts hiX5 hown hK hP 0 (wM_0 ad cA σ) rfl 5 (by decide) hw2 (fun _ h9 => h9) rfl dX5_canDepart_42 ?_
            refine lv_aload_n hx hb dX5_canDepart_45 rfl (lv_at hl 0 rfl) ?_
            refine va_get (D := D) (ci := 5) (v := .ref (ad 5)) (C := RX5) (T := TX5) (N := 30) hx hb hts hiX5 hown hK hP 0 (wM_0 ad cA σ) rfl 7 (by decide) hw3 (fun _ h9 => h9) rfl dX5_canDepart_46 ?_
            refine lv_bipush (v := 6) hx hb dX5_canDepart_49 (by decide) ?_
            refine lv_iload_n hx hb dX5_canDepart_51 rfl (lv_at hl 3 rfl) ?_
            refine lv_imul hx hb dX5_canDepart_52 ?_
            refine lv_iload hx hb dX5_canDepart_53 (lv_at hl 5 rfl) ?_
            refine lv_iadd hx hb dX5_canDepart_55 ?_
            obtain ⟨hb_6, hF⟩ := chk_some hF
            refine va_iald hx hb hK hP 5 4 (wM_5 ad cA σ) (tM_5 cA) hb_6 dX5_canDepart_56 ?_
            obtain ⟨hb_7, hF⟩ := chk_some hF
            refine va_iald hx hb hK hP 3 2 (wM_3 ad cA σ) (tM_3 cA) hb_7 dX5_canDepart_57 ?_
            refine lv_istore (lv' := [(6, .int (σ.1 3 ((σ.1 5 (((6 * x3) + x5)).toNatClampNeg)).toNatClampNeg)), (0, .ref (ad 0)), (1, .int x1), (2, .int x2), (3, .int x3), (4, .int x4), (5, .int x5)]) hx hb dX5_canDepart_58 hl (by decide) rfl (fun ls hl => ?_)
            refine lv_iload hx hb dX5_canDepart_60 (lv_at hl 0 rfl) ?_
            refine lv_iconst (v := (-1)) hx hb dX5_canDepart_62 (by decide) ?_
            refine lv_icmp_eq (tgt := 96) hx hb dX5_canDepart_63 (by decide) (fun c_8 => ?_) (fun c_8 => ?_)
            · have hF := iteT hF c_8
              refine lv_iconst (v := 0) hx hb dX5_canDepart_96 (by decide) ?_
              refine lv_istore (lv' := [(4, .int 0), (6, .int (σ.1 3 ((σ.1 5 (((6 * x3) + x5)).toNatClampNeg)).toNatClampNeg)), (0, .ref (ad 0)), (1, .int x1), (2, .int x2), (3, .int x3), (5, .int x5)]) hx hb dX5_canDepart_97 hl (by decide) rfl (fun ls hl => ?_)
              refine lv_iinc (v := (x5 + 1)) (lv' := [(5, .int (x5 + 1)), (4, .int 0), (6, .int (σ.1 3 ((σ.1 5 (((6 * x3) + x5)).toNatClampNeg)).toNatClampNeg)), (0, .ref (ad 0)), (1, .int x1), (2, .int x2), (3, .int x3)]) hx hb dX5_canDepart_99 hl (k := 6) rfl rfl (by decide) rfl (fun ls hl => ?_)
              refine lv_goto (tgt := 25) hx hb dX5_canDepart_102 (by decide) ?_
              exact ih  x1 x2 x3 0 (x5 + 1) hF _ _ _ hP hD hS (lv_sub hl [3, 4, 5, 6, 1, 0] rfl)
            · have hF := iteF hF c_8
              refine lv_aload_n hx hb dX5_canDepart_66 rfl (lv_at hl 1 rfl) ?_
              refine va_get (D := D) (ci := 5) (v := .ref (ad 13)) (C := RX5) (T := TX5) (N := 30) hx hb hts hiX5 hown hK hP 0 (wM_0 ad cA σ) rfl 18 (by decide) hw4 (fun _ h9 => h9) rfl dX5_canDepart_67 ?_
              refine lv_iload hx hb dX5_canDepart_70 (lv_at hl 0 rfl) ?_
              obtain ⟨hb_9, hF⟩ := chk_some hF
              refine va_iald hx hb hK hP 13 12 (wM_13 ad cA σ) (tM_13 cA) hb_9 dX5_canDepart_72 ?_
              refine lv_iconst (v := 2) hx hb dX5_canDepart_73 (by decide) ?_
              refine lv_icmp_ne (tgt := 96) hx hb dX5_canDepart_74 (by decide) (fun c_10 => ?_) (fun c_10 => ?_)
              · have hF := iteF hF c_10
                refine lv_iconst (v := 0) hx hb dX5_canDepart_96 (by decide) ?_
                refine lv_istore (lv' := [(4, .int 0), (6, .int (σ.1 3 ((σ.1 5 (((6 * x3) + x5)).toNatClampNeg)).toNatClampNeg)), (0, .ref (ad 0)), (1, .int x1), (2, .int x2), (3, .int x3), (5, .int x5)]) hx hb dX5_canDepart_97 hl (by decide) rfl (fun ls hl => ?_)
                refine lv_iinc (v := (x5 + 1)) (lv' := [(5, .int (x5 + 1)), (4, .int 0), (6, .int (σ.1 3 ((σ.1 5 (((6 * x3) + x5)).toNatClampNeg)).toNatClampNeg)), (0, .ref (ad 0)), (1, .int x1), (2, .int x2), (3, .int x3)]) hx hb dX5_canDepart_99 hl (k := 6) rfl rfl (by decide) rfl (fun ls hl => ?_)
                refine lv_goto (tgt := 25) hx hb dX5_canDepart_102 (by decide) ?_
                exact ih  x1 x2 x3 0 (x5 + 1) hF _ _ _ hP hD hS (lv_sub hl [3, 4, 5, 6, 1, 0] rfl)
              · have hF := iteT hF c_10
                refine lv_aload_n hx hb dX5_canDepart_77 rfl (lv_at hl 1 rfl) ?_
                refine lv_iload hx hb dX5_canDepart_78 (lv_at hl 0 rfl) ?_
                refine lv_bipush (v := 10) hx hb dX5_canDepart_80 (by decide) ?_
                refine lv_iload_n hx hb dX5_canDepart_82 rfl (lv_at hl 2 rfl) ?_
                refine lv_imul hx hb dX5_canDepart_83 ?_
                refine lv_iload_n hx hb dX5_canDepart_84 rfl (lv_at hl 3 rfl) ?_
                refine lv_iadd hx hb dX5_canDepart_85 ?_
                obtain ⟨r11, er11, hF⟩ := bR_some hF
                refine gc_Vi (As := [.int (σ.1 3 ((σ.1 5 (((6 * x3) + x5)).toNatClampNeg)).toNatClampNeg), .int ((10 * x1) + x2)]) hS9 (tyc_M_areOn l D ad cA _ σ (σ.1 3 ((σ.1 5 (((6 * x3) + x5)).toNatClampNeg)).toNatClampNeg) ((10 * x1) + x2) r11 er11) (cwV 2 hts gX5_canDepart_X5_areOn rfl rfl rfl hd_X5_areOn ⟨by decide, by decide⟩) hK hP hD hS hA hNN (ci := 5) (q0 := 0) (N := 30) rfl (wM_0 ad cA σ) rfl hl.1 rfl (Nat.le_of_ble_eq_true rfl) dX5_canDepart_86 (fun H locs hP hD hS => ?_)
                refine lv_if_eq (tgt := 96) hx hb dX5_canDepart_89 (by decide) (fun c_12 => ?_) (fun c_12 => ?_)
                · have hF := iteT hF c_12
                  refine lv_iconst (v := 0) hx hb dX5_canDepart_96 (by decide) ?_
                  refine lv_istore (lv' := [(4, .int 0), (6, .int (σ.1 3 ((σ.1 5 (((6 * x3) + x5)).toNatClampNeg)).toNatClampNeg)), (0, .ref (ad 0)), (1, .int x1), (2, .int x2), (3, .int x3), (5, .int x5)]) hx hb dX5_canDepart_97 hl (by decide) rfl (fun ls hl => ?_)
                  refine lv_iinc (v := (x5 + 1)) (lv' := [(5, .int (x5 + 1)), (4, .int 0), (6, .int (σ.1 3 ((σ.1 5 (((6 * x3) + x5)).toNatClampNeg)).toNatClampNeg)), (0, .ref (ad 0)), (1, .int x1), (2, .int x2), (3, .int x3)]) hx hb dX5_canDepart_99 hl (k := 6) rfl rfl (by decide) rfl (fun ls hl => ?_)
                  refine lv_goto (tgt := 25) hx hb dX5_canDepart_102 (by decide) ?_
                  exact ih  x1 x2 x3 0 (x5 + 1) hF _ _ _ hP hD hS (lv_sub hl [3, 4, 5, 6, 1, 0] rfl)
                · have hF := iteF hF c_12
                  refine lv_iconst (v := 1) hx hb dX5_canDepart_92 (by decide) ?_
                  refine lv_goto (tgt := 97) hx hb dX5_canDepart_93 (by decide) ?_
                  refine lv_istore (lv' := [(4, .int 1), (6, .int (σ.1 3 ((σ.1 5 (((6 * x3) + x5)).toNatClampNeg)).toNatClampNeg)), (0, .ref (ad 0)), (1, .int x1), (2, .int x2), (3, .int x3), (5, .int x5)]) hx hb dX5_canDepart_97 hl (by decide) rfl (fun ls hl => ?_)
                  refine lv_iinc (v := (x5 + 1)) (lv' := [(5, .int (x5 + 1)), (4, .int 1), (6, .int (σ.1 3 ((σ.1 5 (((6 * x3) + x5)).toNatClampNeg)).toNatClampNeg)), (0, .ref (ad 0)), (1, .int x1), (2, .int x2), (3, .int x3)]) hx hb dX5_canDepart_99 hl (k := 6) rfl rfl (by decide) rfl (fun ls hl => ?_)
                  refine lv_goto (tgt := 25) hx hb dX5_canDepart_102 (by decide) ?_
                  exact ih  x1 x2 x3 1 (x5 + 1) hF _ _ _ hP hD hS (lv_sub hl [3, 4, 5, 6, 1, 0] rfl)
    refine lp25 _ ?_ 64  p1 p2 ((5 * p1) + p2) 0 0 hF _ _ _ hP hD hS (lv_sub hl [3, 4, 5, 2, 1, 0] rfl)
    intro x1 x2 x3 x4 x5 hF H locs ls hP hD hS hl
    refine lv_iload hx hb dX5_canDepart_105 (lv_at hl 4 rfl) ?_
    obtain ⟨hn_13, hF⟩ := chkb_some hF
    have hn_13 := of_decide_eq_true hn_13
    exact g_iretR hx hb hr (congrArg Value.int hn_13) hlocks hP hK hD hS dX5_canDepart_107 hF
  · have hF := iteF hF c_2
    refine lv_iconst (v := 1) hx hb dX5_canDepart_15 (by decide) ?_
    refine lv_goto (tgt := 20) hx hb dX5_canDepart_16 (by decide) ?_
    refine lv_istore (lv' := [(4, .int 1), (3, .int ((5 * p1) + p2)), (0, .ref (ad 0)), (1, .int p1), (2, .int p2)]) hx hb dX5_canDepart_20 hl (by decide) rfl (fun ls hl => ?_)
    refine lv_iconst (v := 0) hx hb dX5_canDepart_22 (by decide) ?_
    refine lv_istore (lv' := [(5, .int 0), (4, .int 1), (3, .int ((5 * p1) + p2)), (0, .ref (ad 0)), (1, .int p1), (2, .int p2)]) hx hb dX5_canDepart_23 hl (by decide) rfl (fun ls hl => ?_)
    have lp25 : ∀ (k : Int32 → Int32 → Int32 → Int32 → Int32 → Option Int32), (∀ (x1 : Int32) (x2 : Int32) (x3 : Int32) (x4 : Int32) (x5 : Int32) , k x1 x2 x3 x4 x5 = some r → ∀ (H : Heap) (locs : List Loc) (ls : Array Slot), va_P D vwCl (wM ad cA σ) H → va_D A (wM ad cA σ) → va_S A s.heap H locs → lv_has ls 7 [(0, .ref (ad 0)), (1, .int x1), (2, .int x2), (3, .int x3), (4, .int x4), (5, .int x5)] → W p l e (headSpec wsX5_canDepart ({ frames := 1, cells := 0, slots := 0, locals := 24 } : Room)).room s m #[.ref (ad 0), .int p1, .int p2] below meth c H locs 0 0 (MQ below (gQi D (wM ad cA) (tM cA) A r σ) #[.ref (ad 0), .int p1, .int p2] s 0 0 A) (F0 m 105 ls [])) → ∀ (n : Nat), ∀ (x1 : Int32) (x2 : Int32) (x3 : Int32) (x4 : Int32) (x5 : Int32) , tyl_M_canDepart_25 σ k n x1 x2 x3 x4 x5 = some r → ∀ (H : Heap) (locs : List Loc) (ls : Array Slot), va_P D vwCl (wM ad cA σ) H → va_D A (wM ad cA σ) → va_S A s.heap H locs → lv_has ls 7 [(0, .ref (ad 0)), (1, .int x1), (2, .int x2), (3, .int x3), (4, .int x4), (5, .int x5)] → W p l e (headSpec wsX5_canDepart ({ frames := 1, cells := 0, slots := 0, locals := 24 } : Room)).room s m #[.ref (ad 0), .int p1, .int p2] below meth c H locs 0 0 (MQ below (gQi D (wM ad cA) (tM cA) A r σ) #[.ref (ad 0), .int p1, .int p2] s 0 0 A) (F0 m 25 ls []) := by
      intro k hk n
      induction n with
      | zero =>
        intro x1 x2 x3 x4 x5 hF
        exact absurd hF (fun h => nomatch h)
      | succ n ih =>
        intro x1 x2 x3 x4 x5 hF H locs ls hP hD hS hl
        have hF : tyb_M_canDepart_25 σ k (tyl_M_canDepart_25 σ k n) x1 x2 x3 x4 x5 = some r := hF
        unfold tyb_M_canDepart_25 at hF
        refine lv_iload hx hb dX5_canDepart_25 (lv_at hl 5 rfl) ?_
        refine lv_aload_n hx hb dX5_canDepart_27 rfl (lv_at hl 0 rfl) ?_
        refine va_get (D := D) (ci := 5) (v := .ref (ad 4)) (C := RX5) (T := TX5) (N := 30) hx hb hts hiX5 hown hK hP 0 (wM_0 ad cA σ) rfl 6 (by decide) hw0 (fun _ h9 => h9) rfl dX5_canDepart_28 ?_
        refine lv_iload_n hx hb dX5_canDepart_31 rfl (lv_at hl 3 rfl) ?_
        obtain ⟨hb_14, hF⟩ := chk_some hF
        refine va_iald hx hb hK hP 4 3 (wM_4 ad cA σ) (tM_4 cA) hb_14 dX5_canDepart_32 ?_
        refine lv_icmp_ge (tgt := 105) hx hb dX5_canDepart_33 (by decide) (fun c_15 => ?_) (fun c_15 => ?_)
        · have hF := iteT hF c_15
          exact hk  x1 x2 x3 x4 x5 hF _ _ _ hP hD hS (lv_sub hl [0, 1, 2, 3, 4, 5] rfl)
        · have hF := iteF hF c_15
          refine lv_iload hx hb dX5_canDepart_36 (lv_at hl 4 rfl) ?_
          refine lv_if_eq (tgt := 105) hx hb dX5_canDepart_38 (by decide) (fun c_16 => ?_) (fun c_16 => ?_)
          · have hF := iteT hF c_16
            exact hk  x1 x2 x3 x4 x5 hF _ _ _ hP hD hS (lv_sub hl [0, 1, 2, 3, 4, 5] rfl)
          · have hF := iteF hF c_16
            refine lv_aload_n hx hb dX5_canDepart_41 rfl (lv_at hl 0 rfl) ?_
            refine va_get (D := D) (ci := 5) (v := .ref (ad 3)) (C := RX5) (T := TX5) (N := 30) hx hb hts hiX5 hown hK hP 0 (wM_0 ad cA σ) rfl 5 (by decide) hw2 (fun _ h9 => h9) rfl dX5_canDepart_42 ?_
            refine lv_aload_n hx hb dX5_canDepart_45 rfl (lv_at hl 0 rfl) ?_
            refine va_get (D := D) (ci := 5) (v := .ref (ad 5)) (C := RX5) (T := TX5) (N := 30) hx hb hts hiX5 hown hK hP 0 (wM_0 ad cA σ) rfl 7 (by decide) hw3 (fun _ h9 => h9) rfl dX5_canDepart_46 ?_
            refine lv_bipush (v := 6) hx hb dX5_canDepart_49 (by decide) ?_
            refine lv_iload_n hx hb dX5_canDepart_51 rfl (lv_at hl 3 rfl) ?_
            refine lv_imul hx hb dX5_canDepart_52 ?_
            refine lv_iload hx hb dX5_canDepart_53 (lv_at hl 5 rfl) ?_
            refine lv_iadd hx hb dX5_canDepart_55 ?_
            obtain ⟨hb_17, hF⟩ := chk_some hF
            refine va_iald hx hb hK hP 5 4 (wM_5 ad cA σ) (tM_5 cA) hb_17 dX5_canDepart_56 ?_
            obtain ⟨hb_18, hF⟩ := chk_some hF
            refine va_iald hx hb hK hP 3 2 (wM_3 ad cA σ) (tM_3 cA) hb_18 dX5_canDepart_57 ?_
            refine lv_istore (lv' := [(6, .int (σ.1 3 ((σ.1 5 (((6 * x3) + x5)).toNatClampNeg)).toNatClampNeg)), (0, .ref (ad 0)), (1, .int x1), (2, .int x2), (3, .int x3), (4, .int x4), (5, .int x5)]) hx hb dX5_canDepart_58 hl (by decide) rfl (fun ls hl => ?_)
            refine lv_iload hx hb dX5_canDepart_60 (lv_at hl 0 rfl) ?_
            refine lv_iconst (v := (-1)) hx hb dX5_canDepart_62 (by decide) ?_
            refine lv_icmp_eq (tgt := 96) hx hb dX5_canDepart_63 (by decide) (fun c_19 => ?_) (fun c_19 => ?_)
            · have hF := iteT hF c_19
              refine lv_iconst (v := 0) hx hb dX5_canDepart_96 (by decide) ?_
              refine lv_istore (lv' := [(4, .int 0), (6, .int (σ.1 3 ((σ.1 5 (((6 * x3) + x5)).toNatClampNeg)).toNatClampNeg)), (0, .ref (ad 0)), (1, .int x1), (2, .int x2), (3, .int x3), (5, .int x5)]) hx hb dX5_canDepart_97 hl (by decide) rfl (fun ls hl => ?_)
              refine lv_iinc (v := (x5 + 1)) (lv' := [(5, .int (x5 + 1)), (4, .int 0), (6, .int (σ.1 3 ((σ.1 5 (((6 * x3) + x5)).toNatClampNeg)).toNatClampNeg)), (0, .ref (ad 0)), (1, .int x1), (2, .int x2), (3, .int x3)]) hx hb dX5_canDepart_99 hl (k := 6) rfl rfl (by decide) rfl (fun ls hl => ?_)
              refine lv_goto (tgt := 25) hx hb dX5_canDepart_102 (by decide) ?_
              exact ih  x1 x2 x3 0 (x5 + 1) hF _ _ _ hP hD hS (lv_sub hl [3, 4, 5, 6, 1, 0] rfl)
            · have hF := iteF hF c_19
              refine lv_aload_n hx hb dX5_canDepart_66 rfl (lv_at hl 1 rfl) ?_
              refine va_get (D := D) (ci := 5) (v := .ref (ad 13)) (C := RX5) (T := TX5) (N := 30) hx hb hts hiX5 hown hK hP 0 (wM_0 ad cA σ) rfl 18 (by decide) hw4 (fun _ h9 => h9) rfl dX5_canDepart_67 ?_
              refine lv_iload hx hb dX5_canDepart_70 (lv_at hl 0 rfl) ?_
              obtain ⟨hb_20, hF⟩ := chk_some hF
              refine va_iald hx hb hK hP 13 12 (wM_13 ad cA σ) (tM_13 cA) hb_20 dX5_canDepart_72 ?_
              refine lv_iconst (v := 2) hx hb dX5_canDepart_73 (by decide) ?_
              refine lv_icmp_ne (tgt := 96) hx hb dX5_canDepart_74 (by decide) (fun c_21 => ?_) (fun c_21 => ?_)
              · have hF := iteF hF c_21
                refine lv_iconst (v := 0) hx hb dX5_canDepart_96 (by decide) ?_
                refine lv_istore (lv' := [(4, .int 0), (6, .int (σ.1 3 ((σ.1 5 (((6 * x3) + x5)).toNatClampNeg)).toNatClampNeg)), (0, .ref (ad 0)), (1, .int x1), (2, .int x2), (3, .int x3), (5, .int x5)]) hx hb dX5_canDepart_97 hl (by decide) rfl (fun ls hl => ?_)
                refine lv_iinc (v := (x5 + 1)) (lv' := [(5, .int (x5 + 1)), (4, .int 0), (6, .int (σ.1 3 ((σ.1 5 (((6 * x3) + x5)).toNatClampNeg)).toNatClampNeg)), (0, .ref (ad 0)), (1, .int x1), (2, .int x2), (3, .int x3)]) hx hb dX5_canDepart_99 hl (k := 6) rfl rfl (by decide) rfl (fun ls hl => ?_)
                refine lv_goto (tgt := 25) hx hb dX5_canDepart_102 (by decide) ?_
                exact ih  x1 x2 x3 0 (x5 + 1) hF _ _ _ hP hD hS (lv_sub hl [3, 4, 5, 6, 1, 0] rfl)
              · have hF := iteT hF c_21
                refine lv_aload_n hx hb dX5_canDepart_77 rfl (lv_at hl 1 rfl) ?_
                refine lv_iload hx hb dX5_canDepart_78 (lv_at hl 0 rfl) ?_
                refine lv_bipush (v := 10) hx hb dX5_canDepart_80 (by decide) ?_
                refine lv_iload_n hx hb dX5_canDepart_82 rfl (lv_at hl 2 rfl) ?_
                refine lv_imul hx hb dX5_canDepart_83 ?_
                refine lv_iload_n hx hb dX5_canDepart_84 rfl (lv_at hl 3 rfl) ?_
                refine lv_iadd hx hb dX5_canDepart_85 ?_
                obtain ⟨r22, er22, hF⟩ := bR_some hF
                refine gc_Vi (As := [.int (σ.1 3 ((σ.1 5 (((6 * x3) + x5)).toNatClampNeg)).toNatClampNeg), .int ((10 * x1) + x2)]) hS9 (tyc_M_areOn l D ad cA _ σ (σ.1 3 ((σ.1 5 (((6 * x3) + x5)).toNatClampNeg)).toNatClampNeg) ((10 * x1) + x2) r22 er22) (cwV 2 hts gX5_canDepart_X5_areOn rfl rfl rfl hd_X5_areOn ⟨by decide, by decide⟩) hK hP hD hS hA hNN (ci := 5) (q0 := 0) (N := 30) rfl (wM_0 ad cA σ) rfl hl.1 rfl (Nat.le_of_ble_eq_true rfl) dX5_canDepart_86 (fun H locs hP hD hS => ?_)
                refine lv_if_eq (tgt := 96) hx hb dX5_canDepart_89 (by decide) (fun c_23 => ?_) (fun c_23 => ?_)
                · have hF := iteT hF c_23
                  refine lv_iconst (v := 0) hx hb dX5_canDepart_96 (by decide) ?_
                  refine lv_istore (lv' := [(4, .int 0), (6, .int (σ.1 3 ((σ.1 5 (((6 * x3) + x5)).toNatClampNeg)).toNatClampNeg)), (0, .ref (ad 0)), (1, .int x1), (2, .int x2), (3, .int x3), (5, .int x5)]) hx hb dX5_canDepart_97 hl (by decide) rfl (fun ls hl => ?_)
                  refine lv_iinc (v := (x5 + 1)) (lv' := [(5, .int (x5 + 1)), (4, .int 0), (6, .int (σ.1 3 ((σ.1 5 (((6 * x3) + x5)).toNatClampNeg)).toNatClampNeg)), (0, .ref (ad 0)), (1, .int x1), (2, .int x2), (3, .int x3)]) hx hb dX5_canDepart_99 hl (k := 6) rfl rfl (by decide) rfl (fun ls hl => ?_)
                  refine lv_goto (tgt := 25) hx hb dX5_canDepart_102 (by decide) ?_
                  exact ih  x1 x2 x3 0 (x5 + 1) hF _ _ _ hP hD hS (lv_sub hl [3, 4, 5, 6, 1, 0] rfl)
                · have hF := iteF hF c_23
                  refine lv_iconst (v := 1) hx hb dX5_canDepart_92 (by decide) ?_
                  refine lv_goto (tgt := 97) hx hb dX5_canDepart_93 (by decide) ?_
                  refine lv_istore (lv' := [(4, .int 1), (6, .int (σ.1 3 ((σ.1 5 (((6 * x3) + x5)).toNatClampNeg)).toNatClampNeg)), (0, .ref (ad 0)), (1, .int x1), (2, .int x2), (3, .int x3), (5, .int x5)]) hx hb dX5_canDepart_97 hl (by decide) rfl (fun ls hl => ?_)
                  refine lv_iinc (v := (x5 + 1)) (lv' := [(5, .int (x5 + 1)), (4, .int 1), (6, .int (σ.1 3 ((σ.1 5 (((6 * x3) + x5)).toNatClampNeg)).toNatClampNeg)), (0, .ref (ad 0)), (1, .int x1), (2, .int x2), (3, .int x3)]) hx hb dX5_canDepart_99 hl (k := 6) rfl rfl (by decide) rfl (fun ls hl => ?_)
                  refine lv_goto (tgt := 25) hx hb dX5_canDepart_102 (by decide) ?_
                  exact ih  x1 x2 x3 1 (x5 + 1) hF _ _ _ hP hD hS (lv_sub hl [3, 4, 5, 6, 1, 0] rfl)
    refine lp25 _ ?_ 64  p1 p2 ((5 * p1) + p2) 1 0 hF _ _ _ hP hD hS (lv_sub hl [3, 4, 5, 2, 1, 0] rfl)
    intro x1 x2 x3 x4 x5 hF H locs ls hP hD hS hl
    refine lv_iload hx hb dX5_canDepart_105 (lv_at hl 4 rfl) ?_
    obtain ⟨hn_24, hF⟩ := chkb_some hF
    have hn_24 := of_decide_eq_true hn_24
    exact g_iretR hx hb hr (congrArg Value.int hn_24) hlocks hP hK hD hS dX5_canDepart_107 hF
set_option maxHeartbeats 4000000 in
set_option maxRecDepth 100000 in
theorem tyc_M_depart (l : Launch) (D : va_G) (ad : Nat → Nat) (cA : Nat → ClassId) (sz : Nat) (σ : tyS) (p1 : Int32) (p2 : Int32) (p3 : Int32) (r : Int32) (τ : tyS) (hF : tyf_M_depart σ p1 p2 p3 = some (r, τ)) : gMi l yX5_depart wsX5_depart ({ frames := 3, cells := 0, slots := 0, locals := 63 } : Room) D (wM ad cA) (tM cA) [.ref (ad 0), .int p1, .int p2, .int p3] sz σ r τ := by
  refine Met.ofW (cc := cX5_depart) (maxL := 7) (ret := (some .int)) (by decide) rfl ?_
  intro p e s m args below meth c s₁ B hml hv
  obtain ⟨rfl, hsz, hP, hK, hD0, hNN⟩ := hv
  have hx := B.exec
  have hb := B.bytes
  have hr := B.returns
  have hts := atoms_spec (ws := wsX5_depart) B.pre
  have hown : s.vm.findClass RX5 = some m.cls := findClass_of_methodNamed B.named
  have hlocks := B.notSynchronized
  subst hsz
  have hD := hD0.self (sz := s.heap.size)
  generalize hAe : va_A (wM ad cA σ) s.heap.size = A at hD ⊢
  have hA : ∀ q : Nat, s.heap.size ≤ q → A q := fun q h => by rw [← hAe]; exact Or.inr h
  clear hAe hD0
  have hS : va_S A s.heap s.heap [] := va_S.rf
  have hl := lv_entry ([.ref (ad 0), .int p1, .int p2, .int p3]) (n := 7) (Nat.le_of_ble_eq_true rfl)
  rw [lg_entry_eq]
  generalize (lg_sl ([.ref (ad 0), .int p1, .int p2, .int p3]) ++ List.replicate (7 - (lg_sl ([.ref (ad 0), .int p1, .int p2, .int p3])).length) Slot.unset).toArray = ls at hl ⊢
  have hl : lv_has ls 7 [(0, .ref (ad 0)), (1, .int p1), (2, .int p2), (3, .int p3)] := hl
  have hS9 : CallFix p m c cX5_depart 7 s _ wsX5_depart RX5 := ⟨hx, hb, hml, hown, hts⟩
  have hw0 := hts (.fieldLink RX5 80 "TrunkYardsModel" "thrown" "I") (List.mem_cons_of_mem _ (List.mem_of_getElem? (i := 0) rfl))
  have hiX5 : ∀ w ∈ wsX50, w ∈ wsX5_depart := fun w h => List.mem_cons_of_mem _ (List.mem_append_right _ h)
  have hw2 := hts (.fieldLink RX5 19 "TrunkYardsModel" "on" "[I") (List.mem_cons_of_mem _ (List.mem_of_getElem? (i := 1) rfl))
  have hw3 := hts (.fieldLink RX5 22 "TrunkYardsModel" "track" "[I") (List.mem_cons_of_mem _ (List.mem_of_getElem? (i := 2) rfl))
  have hw4 := hts (.fieldLink RX5 77 "TrunkYardsModel" "train" "[I") (List.mem_cons_of_mem _ (List.mem_of_getElem? (i := 3) rfl))
  have hw5 := hts (.fieldLink RX5 183 "TrunkYardsModel" "trains" "I") (List.mem_cons_of_mem _ (List.mem_of_getElem? (i := 4) rfl))
  have hw6 := hts (.fieldLink RX5 7 "TrunkYardsModel" "where" "[I") (List.mem_cons_of_mem _ (List.mem_of_getElem? (i := 5) rfl))
  have hw7 := hts (.fieldLink RX5 13 "TrunkYardsModel" "carried" "[I") (List.mem_cons_of_mem _ (List.mem_of_getElem? (i := 6) rfl))
  have hw8 := hts (.fieldLink RX5 50 "TrunkYardsModel" "grain" "[I") (List.mem_cons_of_mem _ (List.mem_of_getElem? (i := 7) rfl))
  have hw9 := hts (.fieldLink RX5 16 "TrunkYardsModel" "booking" "[I") (List.mem_cons_of_mem _ (List.mem_of_getElem? (i := 8) rfl))
  have hw10 := hts (.fieldLink RX5 47 "TrunkYardsModel" "state" "[I") (List.mem_cons_of_mem _ (List.mem_of_getElem? (i := 9) rfl))
  have hw11 := hts (.fieldLink RX5 74 "TrunkYardsModel" "length" "[I") (List.mem_cons_of_mem _ (List.mem_of_getElem? (i := 10) rfl))
  have hw12 := hts (.fieldLink RX5 68 "TrunkYardsModel" "goesTo" "[I") (List.mem_cons_of_mem _ (List.mem_of_getElem? (i := 11) rfl))
  unfold tyf_M_depart at hF
  refine lv_aload_n hx hb dX5_depart_0 rfl (lv_at hl 0 rfl) ?_
  refine lv_iload_n hx hb dX5_depart_1 rfl (lv_at hl 1 rfl) ?_
  refine lv_iload_n hx hb dX5_depart_2 rfl (lv_at hl 2 rfl) ?_
  obtain ⟨r1, er1, hF⟩ := bR_some hF
  refine gc_Si (As := [.int p1, .int p2]) hS9 (tyc_M_isTrack l D ad cA _ σ p1 p2 r1 er1) (va_cwS 2 hts gX5_depart_X5_isTrack rfl rfl rfl hd_X5_isTrack ⟨by decide, by decide⟩) hK hP hD hS hA hNN rfl hl.1 rfl (Nat.le_of_ble_eq_true rfl) dX5_depart_3 (fun H locs hP hD hS => ?_)
  refine lv_if_eq (tgt := 21) hx hb dX5_depart_6 (by decide) (fun c_2 => ?_) (fun c_2 => ?_)
  · have hF := iteT hF c_2
    refine lv_iconst (v := 1) hx hb dX5_depart_21 (by decide) ?_
    refine lv_goto (tgt := 39) hx hb dX5_depart_22 (by decide) ?_
    obtain ⟨σ3, e3, hF⟩ := stp_some hF
    refine gw_put hx hb hts hiX5 tyX5 tyX5_ok nmX5 hown hK hP hD hS 0 (wM_0 ad cA σ) rfl 0 (by decide) hw0 (fun _ h9 => h9) rfl (by decide +kernel) (show 0 < 30 from by decide) (wMv_0 ad cA σ _) dX5_depart_39 e3 (fun H locs hP hD hS => ?_)
    refine lv_aload_n hx hb dX5_depart_42 rfl (lv_at hl 0 rfl) ?_
    refine va_get (D := D) (ci := 5) (v := .int (σ3.2 0)) (C := RX5) (T := TX5) (N := 30) hx hb hts hiX5 hown hK hP 0 (wM_0 ad cA σ3) rfl 0 (by decide) hw0 (fun _ h9 => h9) rfl dX5_depart_43 ?_
    refine lv_as (y := 1) (by rw [e3]; rfl) ?_
    refine lv_if_le (tgt := 51) hx hb dX5_depart_46 (by decide) (fun h9 => absurd h9 (by decide)) (fun _ => ?_)
    refine lv_iconst (v := 0) hx hb dX5_depart_49 (by decide) ?_
    exact g_iretN hx hb hr rfl hlocks hP hK hD hS dX5_depart_50 hF
  · have hF := iteF hF c_2
    refine lv_iload_n hx hb dX5_depart_9 rfl (lv_at hl 3 rfl) ?_
    obtain ⟨r4, er4, hF⟩ := bR_some hF
    refine gc_Si (As := [.int p3]) hS9 (tyc_M_isYard l D ad cA _ σ p3 r4 er4) (va_cwS 1 hts gX5_depart_X5_isYard rfl rfl rfl hd_X5_isYard ⟨by decide, by decide⟩) hK hP hD hS hA hNN rfl hl.1 rfl (Nat.le_of_ble_eq_true rfl) dX5_depart_10 (fun H locs hP hD hS => ?_)
    refine lv_if_eq (tgt := 21) hx hb dX5_depart_13 (by decide) (fun c_5 => ?_) (fun c_5 => ?_)
    · have hF := iteT hF c_5
      refine lv_iconst (v := 1) hx hb dX5_depart_21 (by decide) ?_
      refine lv_goto (tgt := 39) hx hb dX5_depart_22 (by decide) ?_
      obtain ⟨σ6, e6, hF⟩ := stp_some hF
      refine gw_put hx hb hts hiX5 tyX5 tyX5_ok nmX5 hown hK hP hD hS 0 (wM_0 ad cA σ) rfl 0 (by decide) hw0 (fun _ h9 => h9) rfl (by decide +kernel) (show 0 < 30 from by decide) (wMv_0 ad cA σ _) dX5_depart_39 e6 (fun H locs hP hD hS => ?_)
      refine lv_aload_n hx hb dX5_depart_42 rfl (lv_at hl 0 rfl) ?_
      refine va_get (D := D) (ci := 5) (v := .int (σ6.2 0)) (C := RX5) (T := TX5) (N := 30) hx hb hts hiX5 hown hK hP 0 (wM_0 ad cA σ6) rfl 0 (by decide) hw0 (fun _ h9 => h9) rfl dX5_depart_43 ?_
      refine lv_as (y := 1) (by rw [e6]; rfl) ?_
      refine lv_if_le (tgt := 51) hx hb dX5_depart_46 (by decide) (fun h9 => absurd h9 (by decide)) (fun _ => ?_)
      refine lv_iconst (v := 0) hx hb dX5_depart_49 (by decide) ?_
      exact g_iretN hx hb hr rfl hlocks hP hK hD hS dX5_depart_50 hF
    · have hF := iteF hF c_5
      refine lv_iload_n hx hb dX5_depart_16 rfl (lv_at hl 1 rfl) ?_
      refine lv_iload_n hx hb dX5_depart_17 rfl (lv_at hl 3 rfl) ?_
      refine lv_icmp_ne (tgt := 25) hx hb dX5_depart_18 (by decide) (fun c_7 => ?_) (fun c_7 => ?_)
      · have hF := iteF hF c_7
        refine lv_aload_n hx hb dX5_depart_25 rfl (lv_at hl 0 rfl) ?_
        refine lv_iload_n hx hb dX5_depart_26 rfl (lv_at hl 1 rfl) ?_
        refine lv_iload_n hx hb dX5_depart_27 rfl (lv_at hl 2 rfl) ?_
        obtain ⟨r8, er8, hF⟩ := bR_some hF
        refine gc_Vi (As := [.int p1, .int p2]) hS9 (tyc_M_canDepart l D ad cA _ σ p1 p2 r8 er8) (cwV 2 hts gX5_depart_X5_canDepart rfl rfl rfl hd_X5_canDepart ⟨by decide, by decide⟩) hK hP hD hS hA hNN (ci := 5) (q0 := 0) (N := 30) rfl (wM_0 ad cA σ) rfl hl.1 rfl (Nat.le_of_ble_eq_true rfl) dX5_depart_28 (fun H locs hP hD hS => ?_)
        refine lv_if_eq (tgt := 38) hx hb dX5_depart_31 (by decide) (fun c_9 => ?_) (fun c_9 => ?_)
        · have hF := iteT hF c_9
          refine lv_iconst (v := 2) hx hb dX5_depart_38 (by decide) ?_
          obtain ⟨σ10, e10, hF⟩ := stp_some hF
          refine gw_put hx hb hts hiX5 tyX5 tyX5_ok nmX5 hown hK hP hD hS 0 (wM_0 ad cA σ) rfl 0 (by decide) hw0 (fun _ h9 => h9) rfl (by decide +kernel) (show 0 < 30 from by decide) (wMv_0 ad cA σ _) dX5_depart_39 e10 (fun H locs hP hD hS => ?_)
          refine lv_aload_n hx hb dX5_depart_42 rfl (lv_at hl 0 rfl) ?_
          refine va_get (D := D) (ci := 5) (v := .int (σ10.2 0)) (C := RX5) (T := TX5) (N := 30) hx hb hts hiX5 hown hK hP 0 (wM_0 ad cA σ10) rfl 0 (by decide) hw0 (fun _ h9 => h9) rfl dX5_depart_43 ?_
          refine lv_as (y := 2) (by rw [e10]; rfl) ?_
          refine lv_if_le (tgt := 51) hx hb dX5_depart_46 (by decide) (fun h9 => absurd h9 (by decide)) (fun _ => ?_)
          refine lv_iconst (v := 0) hx hb dX5_depart_49 (by decide) ?_
          exact g_iretN hx hb hr rfl hlocks hP hK hD hS dX5_depart_50 hF
        · have hF := iteF hF c_9
          refine lv_iconst (v := 0) hx hb dX5_depart_34 (by decide) ?_
          refine lv_goto (tgt := 39) hx hb dX5_depart_35 (by decide) ?_
          obtain ⟨σ11, e11, hF⟩ := stp_some hF
          refine gw_put hx hb hts hiX5 tyX5 tyX5_ok nmX5 hown hK hP hD hS 0 (wM_0 ad cA σ) rfl 0 (by decide) hw0 (fun _ h9 => h9) rfl (by decide +kernel) (show 0 < 30 from by decide) (wMv_0 ad cA σ _) dX5_depart_39 e11 (fun H locs hP hD hS => ?_)
          refine lv_aload_n hx hb dX5_depart_42 rfl (lv_at hl 0 rfl) ?_
          refine va_get (D := D) (ci := 5) (v := .int (σ11.2 0)) (C := RX5) (T := TX5) (N := 30) hx hb hts hiX5 hown hK hP 0 (wM_0 ad cA σ11) rfl 0 (by decide) hw0 (fun _ h9 => h9) rfl dX5_depart_43 ?_
          refine lv_as (y := 0) (by rw [e11]; rfl) ?_
          refine lv_if_le (tgt := 51) hx hb dX5_depart_46 (by decide) (fun _ => ?_) (fun h9 => absurd h9 (by decide))
          refine lv_iconst (v := 5) hx hb dX5_depart_51 (by decide) ?_
          refine lv_iload_n hx hb dX5_depart_52 rfl (lv_at hl 1 rfl) ?_
          refine lv_imul hx hb dX5_depart_53 ?_
          refine lv_iload_n hx hb dX5_depart_54 rfl (lv_at hl 2 rfl) ?_
          refine lv_iadd hx hb dX5_depart_55 ?_
          refine lv_istore (lv' := [(4, .int ((5 * p1) + p2)), (0, .ref (ad 0)), (1, .int p1), (2, .int p2), (3, .int p3)]) hx hb dX5_depart_56 hl (by decide) rfl (fun ls hl => ?_)
          refine lv_iconst (v := 0) hx hb dX5_depart_58 (by decide) ?_
          refine lv_istore (lv' := [(5, .int 0), (4, .int ((5 * p1) + p2)), (0, .ref (ad 0)), (1, .int p1), (2, .int p2), (3, .int p3)]) hx hb dX5_depart_59 hl (by decide) rfl (fun ls hl => ?_)
          have lp61 : ∀ (k : tyS → Int32 → Int32 → Int32 → Int32 → Int32 → Option (Int32 × tyS)), (∀ (σ0 : tyS) (x1 : Int32) (x2 : Int32) (x3 : Int32) (x4 : Int32) (x5 : Int32) , k σ0 x1 x2 x3 x4 x5 = some (r, τ) → ∀ (H : Heap) (locs : List Loc) (ls : Array Slot), va_P D vwCl (wM ad cA σ0) H → va_D A (wM ad cA σ0) → va_S A s.heap H locs → lv_has ls 7 [(0, .ref (ad 0)), (1, .int x1), (2, .int x2), (3, .int x3), (4, .int x4), (5, .int x5)] → W p l e (headSpec wsX5_depart ({ frames := 3, cells := 0, slots := 0, locals := 63 } : Room)).room s m #[.ref (ad 0), .int p1, .int p2, .int p3] below meth c H locs 0 0 (MQ below (gQi D (wM ad cA) (tM cA) A r τ) #[.ref (ad 0), .int p1, .int p2, .int p3] s 0 0 A) (F0 m 151 ls [])) → ∀ (n : Nat), ∀ (σ0 : tyS) (x1 : Int32) (x2 : Int32) (x3 : Int32) (x4 : Int32) (x5 : Int32) , tyl_M_depart_61 k n σ0 x1 x2 x3 x4 x5 = some (r, τ) → ∀ (H : Heap) (locs : List Loc) (ls : Array Slot), va_P D vwCl (wM ad cA σ0) H → va_D A (wM ad cA σ0) → va_S A s.heap H locs → lv_has ls 7 [(0, .ref (ad 0)), (1, .int x1), (2, .int x2), (3, .int x3), (4, .int x4), (5, .int x5)] → W p l e (headSpec wsX5_depart ({ frames := 3, cells := 0, slots := 0, locals := 63 } : Room)).room s m #[.ref (ad 0), .int p1, .int p2, .int p3] below meth c H locs 0 0 (MQ below (gQi D (wM ad cA) (tM cA) A r τ) #[.ref (ad 0), .int p1, .int p2, .int p3] s 0 0 A) (F0 m 61 ls []) := by
            intro k hk n
            induction n with
            | zero =>
              intro σ0 x1 x2 x3 x4 x5 hF
              exact absurd hF (fun h => nomatch h)
            | succ n ih =>
              intro σ0 x1 x2 x3 x4 x5 hF H locs ls hP hD hS hl
              have hF : tyb_M_depart_61 k (tyl_M_depart_61 k n) σ0 x1 x2 x3 x4 x5 = some (r, τ) := hF
              unfold tyb_M_depart_61 at hF
              refine lv_iload hx hb dX5_depart_61 (lv_at hl 5 rfl) ?_
              refine lv_aload_n hx hb dX5_depart_63 rfl (lv_at hl 0 rfl) ?_
              refine va_get (D := D) (ci := 5) (v := .ref (ad 4)) (C := RX5) (T := TX5) (N := 30) hx hb hts hiX5 hown hK hP 0 (wM_0 ad cA σ0) rfl 6 (by decide) hw2 (fun _ h9 => h9) rfl dX5_depart_64 ?_
              refine lv_iload hx hb dX5_depart_67 (lv_at hl 4 rfl) ?_
              obtain ⟨hb_12, hF⟩ := chk_some hF
              refine va_iald hx hb hK hP 4 3 (wM_4 ad cA σ0) (tM_4 cA) hb_12 dX5_depart_69 ?_
              refine lv_icmp_ge (tgt := 151) hx hb dX5_depart_70 (by decide) (fun c_13 => ?_) (fun c_13 => ?_)
              · have hF := iteT hF c_13
                exact hk σ0 x1 x2 x3 x4 x5 hF _ _ _ hP hD hS (lv_sub hl [0, 1, 2, 3, 4, 5] rfl)
              · have hF := iteF hF c_13
                refine lv_aload_n hx hb dX5_depart_73 rfl (lv_at hl 0 rfl) ?_
                refine va_get (D := D) (ci := 5) (v := .ref (ad 5)) (C := RX5) (T := TX5) (N := 30) hx hb hts hiX5 hown hK hP 0 (wM_0 ad cA σ0) rfl 7 (by decide) hw3 (fun _ h9 => h9) rfl dX5_depart_74 ?_
                refine lv_bipush (v := 6) hx hb dX5_depart_77 (by decide) ?_
                refine lv_iload hx hb dX5_depart_79 (lv_at hl 4 rfl) ?_
                refine lv_imul hx hb dX5_depart_81 ?_
                refine lv_iload hx hb dX5_depart_82 (lv_at hl 5 rfl) ?_
                refine lv_iadd hx hb dX5_depart_84 ?_
                obtain ⟨hb_14, hF⟩ := chk_some hF
                refine va_iald hx hb hK hP 5 4 (wM_5 ad cA σ0) (tM_5 cA) hb_14 dX5_depart_85 ?_
                refine lv_istore (lv' := [(6, .int (σ0.1 5 (((6 * x4) + x5)).toNatClampNeg)), (0, .ref (ad 0)), (1, .int x1), (2, .int x2), (3, .int x3), (4, .int x4), (5, .int x5)]) hx hb dX5_depart_86 hl (by decide) rfl (fun ls hl => ?_)
                refine lv_aload_n hx hb dX5_depart_88 rfl (lv_at hl 1 rfl) ?_
                refine va_get (D := D) (ci := 5) (v := .ref (ad 23)) (C := RX5) (T := TX5) (N := 30) hx hb hts hiX5 hown hK hP 0 (wM_0 ad cA σ0) rfl 29 (by decide) hw4 (fun _ h9 => h9) rfl dX5_depart_89 ?_
                refine lv_bipush (v := 6) hx hb dX5_depart_92 (by decide) ?_
                refine lv_aload_n hx hb dX5_depart_94 rfl (lv_at hl 1 rfl) ?_
                refine va_get (D := D) (ci := 5) (v := .int (σ0.2 6)) (C := RX5) (T := TX5) (N := 30) hx hb hts hiX5 hown hK hP 0 (wM_0 ad cA σ0) rfl 25 (by decide) hw5 (fun _ h9 => h9) rfl dX5_depart_95 ?_
                refine lv_imul hx hb dX5_depart_98 ?_
                refine lv_iload hx hb dX5_depart_99 (lv_at hl 6 rfl) ?_
                refine lv_iadd hx hb dX5_depart_101 ?_
                refine lv_iload hx hb dX5_depart_102 (lv_at hl 0 rfl) ?_
                obtain ⟨hb_15, hF⟩ := chk_some hF
                obtain ⟨σ16, e16, hF⟩ := stp_some hF
                refine gw_iast hx hb hK hP hD hS (wM_23 ad cA σ0) (tM_23 cA) (wMs_23 ad cA σ0) hb_15 dX5_depart_104 e16 (fun H locs hP hD hS => ?_)
                refine lv_aload_n hx hb dX5_depart_105 rfl (lv_at hl 1 rfl) ?_
                refine va_get (D := D) (ci := 5) (v := .ref (ad 1)) (C := RX5) (T := TX5) (N := 30) hx hb hts hiX5 hown hK hP 0 (wM_0 ad cA σ16) rfl 3 (by decide) hw6 (fun _ h9 => h9) rfl dX5_depart_106 ?_
                refine lv_iload hx hb dX5_depart_109 (lv_at hl 0 rfl) ?_
                refine lv_iconst (v := (-1)) hx hb dX5_depart_111 (by decide) ?_
                obtain ⟨hb_17, hF⟩ := chk_some hF
                obtain ⟨σ18, e18, hF⟩ := stp_some hF
                refine gw_iast hx hb hK hP hD hS (wM_1 ad cA σ16) (tM_1 cA) (wMs_1 ad cA σ16) hb_17 dX5_depart_112 e18 (fun H locs hP hD hS => ?_)
                refine lv_aload_n hx hb dX5_depart_113 rfl (lv_at hl 1 rfl) ?_
                refine va_get (D := D) (ci := 5) (v := .ref (ad 2)) (C := RX5) (T := TX5) (N := 30) hx hb hts hiX5 hown hK hP 0 (wM_0 ad cA σ18) rfl 4 (by decide) hw7 (fun _ h9 => h9) rfl dX5_depart_114 ?_
                refine lv_iload hx hb dX5_depart_117 (lv_at hl 0 rfl) ?_
                refine lv_aload_n hx hb dX5_depart_119 rfl (lv_at hl 1 rfl) ?_
                refine va_get (D := D) (ci := 5) (v := .ref (ad 14)) (C := RX5) (T := TX5) (N := 30) hx hb hts hiX5 hown hK hP 0 (wM_0 ad cA σ18) rfl 19 (by decide) hw8 (fun _ h9 => h9) rfl dX5_depart_120 ?_
                refine lv_aload_n hx hb dX5_depart_123 rfl (lv_at hl 1 rfl) ?_
                refine va_get (D := D) (ci := 5) (v := .ref (ad 3)) (C := RX5) (T := TX5) (N := 30) hx hb hts hiX5 hown hK hP 0 (wM_0 ad cA σ18) rfl 5 (by decide) hw9 (fun _ h9 => h9) rfl dX5_depart_124 ?_
                refine lv_iload hx hb dX5_depart_127 (lv_at hl 0 rfl) ?_
                obtain ⟨hb_19, hF⟩ := chk_some hF
                refine va_iald hx hb hK hP 3 2 (wM_3 ad cA σ18) (tM_3 cA) hb_19 dX5_depart_129 ?_
                obtain ⟨hb_20, hF⟩ := chk_some hF
                refine va_iald hx hb hK hP 14 13 (wM_14 ad cA σ18) (tM_14 cA) hb_20 dX5_depart_130 ?_
                obtain ⟨hb_21, hF⟩ := chk_some hF
                obtain ⟨σ22, e22, hF⟩ := stp_some hF
                refine gw_iast hx hb hK hP hD hS (wM_2 ad cA σ18) (tM_2 cA) (wMs_2 ad cA σ18) hb_21 dX5_depart_131 e22 (fun H locs hP hD hS => ?_)
                refine lv_aload_n hx hb dX5_depart_132 rfl (lv_at hl 1 rfl) ?_
                refine va_get (D := D) (ci := 5) (v := .ref (ad 13)) (C := RX5) (T := TX5) (N := 30) hx hb hts hiX5 hown hK hP 0 (wM_0 ad cA σ22) rfl 18 (by decide) hw10 (fun _ h9 => h9) rfl dX5_depart_133 ?_
                refine lv_aload_n hx hb dX5_depart_136 rfl (lv_at hl 1 rfl) ?_
                refine va_get (D := D) (ci := 5) (v := .ref (ad 3)) (C := RX5) (T := TX5) (N := 30) hx hb hts hiX5 hown hK hP 0 (wM_0 ad cA σ22) rfl 5 (by decide) hw9 (fun _ h9 => h9) rfl dX5_depart_137 ?_
                refine lv_iload hx hb dX5_depart_140 (lv_at hl 0 rfl) ?_
                obtain ⟨hb_23, hF⟩ := chk_some hF
                refine va_iald hx hb hK hP 3 2 (wM_3 ad cA σ22) (tM_3 cA) hb_23 dX5_depart_142 ?_
                refine lv_iconst (v := 3) hx hb dX5_depart_143 (by decide) ?_
                obtain ⟨hb_24, hF⟩ := chk_some hF
                obtain ⟨σ25, e25, hF⟩ := stp_some hF
                refine gw_iast hx hb hK hP hD hS (wM_13 ad cA σ22) (tM_13 cA) (wMs_13 ad cA σ22) hb_24 dX5_depart_144 e25 (fun H locs hP hD hS => ?_)
                refine lv_iinc (v := (x5 + 1)) (lv' := [(5, .int (x5 + 1)), (6, .int (σ0.1 5 (((6 * x4) + x5)).toNatClampNeg)), (0, .ref (ad 0)), (1, .int x1), (2, .int x2), (3, .int x3), (4, .int x4)]) hx hb dX5_depart_145 hl (k := 6) rfl rfl (by decide) rfl (fun ls hl => ?_)
                refine lv_goto (tgt := 61) hx hb dX5_depart_148 (by decide) ?_
                exact ih σ25 x1 x2 x3 x4 (x5 + 1) hF _ _ _ hP hD hS (lv_sub hl [2, 3, 4, 5, 6, 0] rfl)
          refine lp61 _ ?_ 64 σ11 p1 p2 p3 ((5 * p1) + p2) 0 hF _ _ _ hP hD hS (lv_sub hl [2, 3, 4, 5, 1, 0] rfl)
          intro σ0 x1 x2 x3 x4 x5 hF H locs ls hP hD hS hl
          refine lv_aload_n hx hb dX5_depart_151 rfl (lv_at hl 0 rfl) ?_
          refine va_get (D := D) (ci := 5) (v := .ref (ad 22)) (C := RX5) (T := TX5) (N := 30) hx hb hts hiX5 hown hK hP 0 (wM_0 ad cA σ0) rfl 28 (by decide) hw11 (fun _ h9 => h9) rfl dX5_depart_152 ?_
          refine lv_aload_n hx hb dX5_depart_155 rfl (lv_at hl 0 rfl) ?_
          refine va_get (D := D) (ci := 5) (v := .int (σ0.2 6)) (C := RX5) (T := TX5) (N := 30) hx hb hts hiX5 hown hK hP 0 (wM_0 ad cA σ0) rfl 25 (by decide) hw5 (fun _ h9 => h9) rfl dX5_depart_156 ?_
          refine lv_aload_n hx hb dX5_depart_159 rfl (lv_at hl 0 rfl) ?_
          refine va_get (D := D) (ci := 5) (v := .ref (ad 4)) (C := RX5) (T := TX5) (N := 30) hx hb hts hiX5 hown hK hP 0 (wM_0 ad cA σ0) rfl 6 (by decide) hw2 (fun _ h9 => h9) rfl dX5_depart_160 ?_
          refine lv_iload hx hb dX5_depart_163 (lv_at hl 4 rfl) ?_
          obtain ⟨hb_26, hF⟩ := chk_some hF
          refine va_iald hx hb hK hP 4 3 (wM_4 ad cA σ0) (tM_4 cA) hb_26 dX5_depart_165 ?_
          obtain ⟨hb_27, hF⟩ := chk_some hF
          obtain ⟨σ28, e28, hF⟩ := stp_some hF
          refine gw_iast hx hb hK hP hD hS (wM_22 ad cA σ0) (tM_22 cA) (wMs_22 ad cA σ0) hb_27 dX5_depart_166 e28 (fun H locs hP hD hS => ?_)
          refine lv_aload_n hx hb dX5_depart_167 rfl (lv_at hl 0 rfl) ?_
          refine va_get (D := D) (ci := 5) (v := .ref (ad 4)) (C := RX5) (T := TX5) (N := 30) hx hb hts hiX5 hown hK hP 0 (wM_0 ad cA σ28) rfl 6 (by decide) hw2 (fun _ h9 => h9) rfl dX5_depart_168 ?_
          refine lv_iload hx hb dX5_depart_171 (lv_at hl 4 rfl) ?_
          refine lv_iconst (v := 0) hx hb dX5_depart_173 (by decide) ?_
          obtain ⟨hb_29, hF⟩ := chk_some hF
          obtain ⟨σ30, e30, hF⟩ := stp_some hF
          refine gw_iast hx hb hK hP hD hS (wM_4 ad cA σ28) (tM_4 cA) (wMs_4 ad cA σ28) hb_29 dX5_depart_174 e30 (fun H locs hP hD hS => ?_)
          refine lv_aload_n hx hb dX5_depart_175 rfl (lv_at hl 0 rfl) ?_
          refine va_get (D := D) (ci := 5) (v := .ref (ad 20)) (C := RX5) (T := TX5) (N := 30) hx hb hts hiX5 hown hK hP 0 (wM_0 ad cA σ30) rfl 26 (by decide) hw12 (fun _ h9 => h9) rfl dX5_depart_176 ?_
          refine lv_aload_n hx hb dX5_depart_179 rfl (lv_at hl 0 rfl) ?_
          refine va_get (D := D) (ci := 5) (v := .int (σ30.2 6)) (C := RX5) (T := TX5) (N := 30) hx hb hts hiX5 hown hK hP 0 (wM_0 ad cA σ30) rfl 25 (by decide) hw5 (fun _ h9 => h9) rfl dX5_depart_180 ?_
          refine lv_iload_n hx hb dX5_depart_183 rfl (lv_at hl 3 rfl) ?_
          obtain ⟨hb_31, hF⟩ := chk_some hF
          obtain ⟨σ32, e32, hF⟩ := stp_some hF
          refine gw_iast hx hb hK hP hD hS (wM_20 ad cA σ30) (tM_20 cA) (wMs_20 ad cA σ30) hb_31 dX5_depart_184 e32 (fun H locs hP hD hS => ?_)
          refine lv_aload_n hx hb dX5_depart_185 rfl (lv_at hl 0 rfl) ?_
          refine lv_dup hx hb dX5_depart_186 rfl ?_
          refine va_get (D := D) (ci := 5) (v := .int (σ32.2 6)) (C := RX5) (T := TX5) (N := 30) hx hb hts hiX5 hown hK hP 0 (wM_0 ad cA σ32) rfl 25 (by decide) hw5 (fun _ h9 => h9) rfl dX5_depart_187 ?_
          refine lv_iconst (v := 1) hx hb dX5_depart_190 (by decide) ?_
          refine lv_iadd hx hb dX5_depart_191 ?_
          obtain ⟨σ33, e33, hF⟩ := stp_some hF
          refine gw_put hx hb hts hiX5 tyX5 tyX5_ok nmX5 hown hK hP hD hS 0 (wM_0 ad cA σ32) rfl 25 (by decide) hw5 (fun _ h9 => h9) rfl (by decide +kernel) (show 25 < 30 from by decide) (wMv_6 ad cA σ32 _) dX5_depart_192 e33 (fun H locs hP hD hS => ?_)
          refine lv_aload_n hx hb dX5_depart_195 rfl (lv_at hl 0 rfl) ?_
          refine va_get (D := D) (ci := 5) (v := .int (σ33.2 6)) (C := RX5) (T := TX5) (N := 30) hx hb hts hiX5 hown hK hP 0 (wM_0 ad cA σ33) rfl 25 (by decide) hw5 (fun _ h9 => h9) rfl dX5_depart_196 ?_
          refine lv_iconst (v := 1) hx hb dX5_depart_199 (by decide) ?_
          refine lv_isub hx hb dX5_depart_200 ?_
          exact g_iretN hx hb hr rfl hlocks hP hK hD hS dX5_depart_201 hF
      · have hF := iteT hF c_7
        refine lv_iconst (v := 1) hx hb dX5_depart_21 (by decide) ?_
        refine lv_goto (tgt := 39) hx hb dX5_depart_22 (by decide) ?_
        obtain ⟨σ34, e34, hF⟩ := stp_some hF
        refine gw_put hx hb hts hiX5 tyX5 tyX5_ok nmX5 hown hK hP hD hS 0 (wM_0 ad cA σ) rfl 0 (by decide) hw0 (fun _ h9 => h9) rfl (by decide +kernel) (show 0 < 30 from by decide) (wMv_0 ad cA σ _) dX5_depart_39 e34 (fun H locs hP hD hS => ?_)
        refine lv_aload_n hx hb dX5_depart_42 rfl (lv_at hl 0 rfl) ?_
        refine va_get (D := D) (ci := 5) (v := .int (σ34.2 0)) (C := RX5) (T := TX5) (N := 30) hx hb hts hiX5 hown hK hP 0 (wM_0 ad cA σ34) rfl 0 (by decide) hw0 (fun _ h9 => h9) rfl dX5_depart_43 ?_
        refine lv_as (y := 1) (by rw [e34]; rfl) ?_
        refine lv_if_le (tgt := 51) hx hb dX5_depart_46 (by decide) (fun h9 => absurd h9 (by decide)) (fun _ => ?_)
        refine lv_iconst (v := 0) hx hb dX5_depart_49 (by decide) ?_
        exact g_iretN hx hb hr rfl hlocks hP hK hD hS dX5_depart_50 hF
set_option maxHeartbeats 4000000 in
set_option maxRecDepth 100000 in
theorem tyc_M_arrive (l : Launch) (D : va_G) (ad : Nat → Nat) (cA : Nat → ClassId) (sz : Nat) (σ : tyS) (p1 : Int32) (p2 : Int32) (r : Int32) (τ : tyS) (hF : tyf_M_arrive σ p1 p2 = some (r, τ)) : gMi l yX5_arrive wsX5_arrive ({ frames := 1, cells := 0, slots := 0, locals := 24 } : Room) D (wM ad cA) (tM cA) [.ref (ad 0), .int p1, .int p2] sz σ r τ := by
  refine Met.ofW (cc := cX5_arrive) (maxL := 5) (ret := (some .int)) (by decide) rfl ?_
  intro p e s m args below meth c s₁ B hml hv
  obtain ⟨rfl, hsz, hP, hK, hD0, hNN⟩ := hv
  have hx := B.exec
  have hb := B.bytes
  have hr := B.returns
  have hts := atoms_spec (ws := wsX5_arrive) B.pre
  have hown : s.vm.findClass RX5 = some m.cls := findClass_of_methodNamed B.named
  have hlocks := B.notSynchronized
  subst hsz
  have hD := hD0.self (sz := s.heap.size)
  generalize hAe : va_A (wM ad cA σ) s.heap.size = A at hD ⊢
  have hA : ∀ q : Nat, s.heap.size ≤ q → A q := fun q h => by rw [← hAe]; exact Or.inr h
  clear hAe hD0
  have hS : va_S A s.heap s.heap [] := va_S.rf
  have hl := lv_entry ([.ref (ad 0), .int p1, .int p2]) (n := 5) (Nat.le_of_ble_eq_true rfl)
  rw [lg_entry_eq]
  generalize (lg_sl ([.ref (ad 0), .int p1, .int p2]) ++ List.replicate (5 - (lg_sl ([.ref (ad 0), .int p1, .int p2])).length) Slot.unset).toArray = ls at hl ⊢
  have hl : lv_has ls 5 [(0, .ref (ad 0)), (1, .int p1), (2, .int p2)] := hl
  have hS9 : CallFix p m c cX5_arrive 5 s _ wsX5_arrive RX5 := ⟨hx, hb, hml, hown, hts⟩
  have hw0 := hts (.fieldLink RX5 183 "TrunkYardsModel" "trains" "I") (List.mem_cons_of_mem _ (List.mem_of_getElem? (i := 0) rfl))
  have hiX5 : ∀ w ∈ wsX50, w ∈ wsX5_arrive := fun w h => List.mem_cons_of_mem _ (List.mem_append_right _ h)
  have hw2 := hts (.fieldLink RX5 80 "TrunkYardsModel" "thrown" "I") (List.mem_cons_of_mem _ (List.mem_of_getElem? (i := 1) rfl))
  have hw3 := hts (.fieldLink RX5 71 "TrunkYardsModel" "hasArrived" "[Z") (List.mem_cons_of_mem _ (List.mem_of_getElem? (i := 2) rfl))
  have hw4 := hts (.fieldLink RX5 19 "TrunkYardsModel" "on" "[I") (List.mem_cons_of_mem _ (List.mem_of_getElem? (i := 3) rfl))
  have hw5 := hts (.fieldLink RX5 68 "TrunkYardsModel" "goesTo" "[I") (List.mem_cons_of_mem _ (List.mem_of_getElem? (i := 4) rfl))
  have hw6 := hts (.fieldLink RX5 74 "TrunkYardsModel" "length" "[I") (List.mem_cons_of_mem _ (List.mem_of_getElem? (i := 5) rfl))
  have hw7 := hts (.fieldLink RX5 77 "TrunkYardsModel" "train" "[I") (List.mem_cons_of_mem _ (List.mem_of_getElem? (i := 6) rfl))
  have hw8 := hts (.fieldLink RX5 47 "TrunkYardsModel" "state" "[I") (List.mem_cons_of_mem _ (List.mem_of_getElem? (i := 7) rfl))
  have hw9 := hts (.fieldLink RX5 16 "TrunkYardsModel" "booking" "[I") (List.mem_cons_of_mem _ (List.mem_of_getElem? (i := 8) rfl))
  unfold tyf_M_arrive at hF
  refine lv_aload_n hx hb dX5_arrive_0 rfl (lv_at hl 0 rfl) ?_
  refine lv_iload_n hx hb dX5_arrive_1 rfl (lv_at hl 1 rfl) ?_
  refine lv_iconst (v := 0) hx hb dX5_arrive_2 (by decide) ?_
  refine lv_aload_n hx hb dX5_arrive_3 rfl (lv_at hl 0 rfl) ?_
  refine va_get (D := D) (ci := 5) (v := .int (σ.2 6)) (C := RX5) (T := TX5) (N := 30) hx hb hts hiX5 hown hK hP 0 (wM_0 ad cA σ) rfl 25 (by decide) hw0 (fun _ h9 => h9) rfl dX5_arrive_4 ?_
  refine lv_iconst (v := 1) hx hb dX5_arrive_7 (by decide) ?_
  refine lv_isub hx hb dX5_arrive_8 ?_
  obtain ⟨r1, er1, hF⟩ := bR_some hF
  refine gc_Si (As := [.int p1, .int 0, .int ((σ.2 6) - 1)]) hS9 (tyc_M_in l D ad cA _ σ p1 0 ((σ.2 6) - 1) r1 er1) (va_cwS 3 hts gX5_arrive_X5_in rfl rfl rfl hd_X5_in ⟨by decide, by decide⟩) hK hP hD hS hA hNN rfl hl.1 rfl (Nat.le_of_ble_eq_true rfl) dX5_arrive_9 (fun H locs hP hD hS => ?_)
  refine lv_if_ne (tgt := 19) hx hb dX5_arrive_12 (by decide) (fun c_2 => ?_) (fun c_2 => ?_)
  · have hF := iteF hF c_2
    refine lv_iload_n hx hb dX5_arrive_19 rfl (lv_at hl 2 rfl) ?_
    refine lv_iconst (v := 0) hx hb dX5_arrive_20 (by decide) ?_
    refine lv_iconst (v := 4) hx hb dX5_arrive_21 (by decide) ?_
    obtain ⟨r3, er3, hF⟩ := bR_some hF
    refine gc_Si (As := [.int p2, .int 0, .int 4]) hS9 (tyc_M_in l D ad cA _ σ p2 0 4 r3 er3) (va_cwS 3 hts gX5_arrive_X5_in rfl rfl rfl hd_X5_in ⟨by decide, by decide⟩) hK hP hD hS hA hNN rfl hl.1 rfl (Nat.le_of_ble_eq_true rfl) dX5_arrive_22 (fun H locs hP hD hS => ?_)
    refine lv_if_ne (tgt := 32) hx hb dX5_arrive_25 (by decide) (fun c_4 => ?_) (fun c_4 => ?_)
    · have hF := iteF hF c_4
      refine lv_iconst (v := 0) hx hb dX5_arrive_32 (by decide) ?_
      obtain ⟨σ5, e5, hF⟩ := stp_some hF
      refine gw_put hx hb hts hiX5 tyX5 tyX5_ok nmX5 hown hK hP hD hS 0 (wM_0 ad cA σ) rfl 0 (by decide) hw2 (fun _ h9 => h9) rfl (by decide +kernel) (show 0 < 30 from by decide) (wMv_0 ad cA σ _) dX5_arrive_33 e5 (fun H locs hP hD hS => ?_)
      refine lv_aload_n hx hb dX5_arrive_36 rfl (lv_at hl 0 rfl) ?_
      refine va_get (D := D) (ci := 5) (v := .int (σ5.2 0)) (C := RX5) (T := TX5) (N := 30) hx hb hts hiX5 hown hK hP 0 (wM_0 ad cA σ5) rfl 0 (by decide) hw2 (fun _ h9 => h9) rfl dX5_arrive_37 ?_
      refine lv_as (y := 0) (by rw [e5]; rfl) ?_
      refine lv_if_ne (tgt := 88) hx hb dX5_arrive_40 (by decide) (fun h9 => absurd h9 (by decide)) (fun _ => ?_)
      refine lv_aload_n hx hb dX5_arrive_43 rfl (lv_at hl 0 rfl) ?_
      refine lv_aload_n hx hb dX5_arrive_44 rfl (lv_at hl 0 rfl) ?_
      refine va_get (D := D) (ci := 5) (v := .ref (ad 21)) (C := RX5) (T := TX5) (N := 30) hx hb hts hiX5 hown hK hP 0 (wM_0 ad cA σ5) rfl 27 (by decide) hw3 (fun _ h9 => h9) rfl dX5_arrive_45 ?_
      refine lv_iload_n hx hb dX5_arrive_48 rfl (lv_at hl 1 rfl) ?_
      obtain ⟨hb_6, hF⟩ := chk_some hF
      refine va_zald hx hb hK hP 21 20 (wM_21 ad cA σ5) (tM_21 cA) hb_6 dX5_arrive_49 ?_
      refine lv_if_ne (tgt := 80) hx hb dX5_arrive_50 (by decide) (fun c_7 => ?_) (fun c_7 => ?_)
      · have hF := iteF hF c_7
        refine lv_iconst (v := 3) hx hb dX5_arrive_80 (by decide) ?_
        refine lv_goto (tgt := 85) hx hb dX5_arrive_81 (by decide) ?_
        obtain ⟨σ8, e8, hF⟩ := stp_some hF
        refine gw_put hx hb hts hiX5 tyX5 tyX5_ok nmX5 hown hK hP hD hS 0 (wM_0 ad cA σ5) rfl 0 (by decide) hw2 (fun _ h9 => h9) rfl (by decide +kernel) (show 0 < 30 from by decide) (wMv_0 ad cA σ5 _) dX5_arrive_85 e8 (fun H locs hP hD hS => ?_)
        refine lv_aload_n hx hb dX5_arrive_88 rfl (lv_at hl 0 rfl) ?_
        refine va_get (D := D) (ci := 5) (v := .int (σ8.2 0)) (C := RX5) (T := TX5) (N := 30) hx hb hts hiX5 hown hK hP 0 (wM_0 ad cA σ8) rfl 0 (by decide) hw2 (fun _ h9 => h9) rfl dX5_arrive_89 ?_
        refine lv_as (y := 3) (by rw [e8]; rfl) ?_
        refine lv_if_le (tgt := 97) hx hb dX5_arrive_92 (by decide) (fun h9 => absurd h9 (by decide)) (fun _ => ?_)
        refine lv_iconst (v := 0) hx hb dX5_arrive_95 (by decide) ?_
        exact g_iretN hx hb hr rfl hlocks hP hK hD hS dX5_arrive_96 hF
      · have hF := iteT hF c_7
        refine lv_aload_n hx hb dX5_arrive_53 rfl (lv_at hl 0 rfl) ?_
        refine va_get (D := D) (ci := 5) (v := .ref (ad 4)) (C := RX5) (T := TX5) (N := 30) hx hb hts hiX5 hown hK hP 0 (wM_0 ad cA σ5) rfl 6 (by decide) hw4 (fun _ h9 => h9) rfl dX5_arrive_54 ?_
        refine lv_iconst (v := 5) hx hb dX5_arrive_57 (by decide) ?_
        refine lv_aload_n hx hb dX5_arrive_58 rfl (lv_at hl 0 rfl) ?_
        refine va_get (D := D) (ci := 5) (v := .ref (ad 20)) (C := RX5) (T := TX5) (N := 30) hx hb hts hiX5 hown hK hP 0 (wM_0 ad cA σ5) rfl 26 (by decide) hw5 (fun _ h9 => h9) rfl dX5_arrive_59 ?_
        refine lv_iload_n hx hb dX5_arrive_62 rfl (lv_at hl 1 rfl) ?_
        obtain ⟨hb_9, hF⟩ := chk_some hF
        refine va_iald hx hb hK hP 20 19 (wM_20 ad cA σ5) (tM_20 cA) hb_9 dX5_arrive_63 ?_
        refine lv_imul hx hb dX5_arrive_64 ?_
        refine lv_iload_n hx hb dX5_arrive_65 rfl (lv_at hl 2 rfl) ?_
        refine lv_iadd hx hb dX5_arrive_66 ?_
        obtain ⟨hb_10, hF⟩ := chk_some hF
        refine va_iald hx hb hK hP 4 3 (wM_4 ad cA σ5) (tM_4 cA) hb_10 dX5_arrive_67 ?_
        refine lv_aload_n hx hb dX5_arrive_68 rfl (lv_at hl 0 rfl) ?_
        refine va_get (D := D) (ci := 5) (v := .ref (ad 22)) (C := RX5) (T := TX5) (N := 30) hx hb hts hiX5 hown hK hP 0 (wM_0 ad cA σ5) rfl 28 (by decide) hw6 (fun _ h9 => h9) rfl dX5_arrive_69 ?_
        refine lv_iload_n hx hb dX5_arrive_72 rfl (lv_at hl 1 rfl) ?_
        obtain ⟨hb_11, hF⟩ := chk_some hF
        refine va_iald hx hb hK hP 22 21 (wM_22 ad cA σ5) (tM_22 cA) hb_11 dX5_arrive_73 ?_
        refine lv_iadd hx hb dX5_arrive_74 ?_
        refine lv_bipush (v := 6) hx hb dX5_arrive_75 (by decide) ?_
        refine lv_icmp_le (tgt := 84) hx hb dX5_arrive_77 (by decide) (fun c_12 => ?_) (fun c_12 => ?_)
        · have hF := iteT hF c_12
          refine lv_iconst (v := 0) hx hb dX5_arrive_84 (by decide) ?_
          obtain ⟨σ13, e13, hF⟩ := stp_some hF
          refine gw_put hx hb hts hiX5 tyX5 tyX5_ok nmX5 hown hK hP hD hS 0 (wM_0 ad cA σ5) rfl 0 (by decide) hw2 (fun _ h9 => h9) rfl (by decide +kernel) (show 0 < 30 from by decide) (wMv_0 ad cA σ5 _) dX5_arrive_85 e13 (fun H locs hP hD hS => ?_)
          refine lv_aload_n hx hb dX5_arrive_88 rfl (lv_at hl 0 rfl) ?_
          refine va_get (D := D) (ci := 5) (v := .int (σ13.2 0)) (C := RX5) (T := TX5) (N := 30) hx hb hts hiX5 hown hK hP 0 (wM_0 ad cA σ13) rfl 0 (by decide) hw2 (fun _ h9 => h9) rfl dX5_arrive_89 ?_
          refine lv_as (y := 0) (by rw [e13]; rfl) ?_
          refine lv_if_le (tgt := 97) hx hb dX5_arrive_92 (by decide) (fun _ => ?_) (fun h9 => absurd h9 (by decide))
          refine lv_aload_n hx hb dX5_arrive_97 rfl (lv_at hl 0 rfl) ?_
          refine va_get (D := D) (ci := 5) (v := .ref (ad 21)) (C := RX5) (T := TX5) (N := 30) hx hb hts hiX5 hown hK hP 0 (wM_0 ad cA σ13) rfl 27 (by decide) hw3 (fun _ h9 => h9) rfl dX5_arrive_98 ?_
          refine lv_iload_n hx hb dX5_arrive_101 rfl (lv_at hl 1 rfl) ?_
          refine lv_iconst (v := 1) hx hb dX5_arrive_102 (by decide) ?_
          obtain ⟨hb_14, hF⟩ := chk_some hF
          obtain ⟨σ15, e15, hF⟩ := stp_some hF
          refine gw_zast hx hb hK hP hD hS (wM_21 ad cA σ13) (tM_21 cA) (wMs_21 ad cA σ13) (by decide) hb_14 dX5_arrive_103 e15 (fun H locs hP hD hS => ?_)
          refine lv_iconst (v := 0) hx hb dX5_arrive_104 (by decide) ?_
          refine lv_istore_n (lv' := [(3, .int 0), (0, .ref (ad 0)), (1, .int p1), (2, .int p2)]) hx hb dX5_arrive_105 rfl hl (by decide) rfl (fun ls hl => ?_)
          have lp106 : ∀ (k : tyS → Int32 → Int32 → Int32 → Option (Int32 × tyS)), (∀ (σ0 : tyS) (x1 : Int32) (x2 : Int32) (x3 : Int32) , k σ0 x1 x2 x3 = some (r, τ) → ∀ (H : Heap) (locs : List Loc) (ls : Array Slot), va_P D vwCl (wM ad cA σ0) H → va_D A (wM ad cA σ0) → va_S A s.heap H locs → lv_has ls 5 [(0, .ref (ad 0)), (1, .int x1), (2, .int x2), (3, .int x3)] → W p l e (headSpec wsX5_arrive ({ frames := 1, cells := 0, slots := 0, locals := 24 } : Room)).room s m #[.ref (ad 0), .int p1, .int p2] below meth c H locs 0 0 (MQ below (gQi D (wM ad cA) (tM cA) A r τ) #[.ref (ad 0), .int p1, .int p2] s 0 0 A) (F0 m 161 ls [])) → ∀ (n : Nat), ∀ (σ0 : tyS) (x1 : Int32) (x2 : Int32) (x3 : Int32) , tyl_M_arrive_106 k n σ0 x1 x2 x3 = some (r, τ) → ∀ (H : Heap) (locs : List Loc) (ls : Array Slot), va_P D vwCl (wM ad cA σ0) H → va_D A (wM ad cA σ0) → va_S A s.heap H locs → lv_has ls 5 [(0, .ref (ad 0)), (1, .int x1), (2, .int x2), (3, .int x3)] → W p l e (headSpec wsX5_arrive ({ frames := 1, cells := 0, slots := 0, locals := 24 } : Room)).room s m #[.ref (ad 0), .int p1, .int p2] below meth c H locs 0 0 (MQ below (gQi D (wM ad cA) (tM cA) A r τ) #[.ref (ad 0), .int p1, .int p2] s 0 0 A) (F0 m 106 ls []) := by
            intro k hk n
            induction n with
            | zero =>
              intro σ0 x1 x2 x3 hF
              exact absurd hF (fun h => nomatch h)
            | succ n ih =>
              intro σ0 x1 x2 x3 hF H locs ls hP hD hS hl
              have hF : tyb_M_arrive_106 k (tyl_M_arrive_106 k n) σ0 x1 x2 x3 = some (r, τ) := hF
              unfold tyb_M_arrive_106 at hF
              refine lv_iload_n hx hb dX5_arrive_106 rfl (lv_at hl 3 rfl) ?_
              refine lv_aload_n hx hb dX5_arrive_107 rfl (lv_at hl 0 rfl) ?_
              refine va_get (D := D) (ci := 5) (v := .ref (ad 22)) (C := RX5) (T := TX5) (N := 30) hx hb hts hiX5 hown hK hP 0 (wM_0 ad cA σ0) rfl 28 (by decide) hw6 (fun _ h9 => h9) rfl dX5_arrive_108 ?_
              refine lv_iload_n hx hb dX5_arrive_111 rfl (lv_at hl 1 rfl) ?_
              obtain ⟨hb_16, hF⟩ := chk_some hF
              refine va_iald hx hb hK hP 22 21 (wM_22 ad cA σ0) (tM_22 cA) hb_16 dX5_arrive_112 ?_
              refine lv_icmp_ge (tgt := 161) hx hb dX5_arrive_113 (by decide) (fun c_17 => ?_) (fun c_17 => ?_)
              · have hF := iteT hF c_17
                exact hk σ0 x1 x2 x3 hF _ _ _ hP hD hS (lv_sub hl [0, 1, 2, 3] rfl)
              · have hF := iteF hF c_17
                refine lv_aload_n hx hb dX5_arrive_116 rfl (lv_at hl 0 rfl) ?_
                refine va_get (D := D) (ci := 5) (v := .ref (ad 23)) (C := RX5) (T := TX5) (N := 30) hx hb hts hiX5 hown hK hP 0 (wM_0 ad cA σ0) rfl 29 (by decide) hw7 (fun _ h9 => h9) rfl dX5_arrive_117 ?_
                refine lv_bipush (v := 6) hx hb dX5_arrive_120 (by decide) ?_
                refine lv_iload_n hx hb dX5_arrive_122 rfl (lv_at hl 1 rfl) ?_
                refine lv_imul hx hb dX5_arrive_123 ?_
                refine lv_iload_n hx hb dX5_arrive_124 rfl (lv_at hl 3 rfl) ?_
                refine lv_iadd hx hb dX5_arrive_125 ?_
                obtain ⟨hb_18, hF⟩ := chk_some hF
                refine va_iald hx hb hK hP 23 22 (wM_23 ad cA σ0) (tM_23 cA) hb_18 dX5_arrive_126 ?_
                refine lv_istore (lv' := [(4, .int (σ0.1 23 (((6 * x1) + x3)).toNatClampNeg)), (0, .ref (ad 0)), (1, .int x1), (2, .int x2), (3, .int x3)]) hx hb dX5_arrive_127 hl (by decide) rfl (fun ls hl => ?_)
                refine lv_aload_n hx hb dX5_arrive_129 rfl (lv_at hl 1 rfl) ?_
                refine lv_aload_n hx hb dX5_arrive_130 rfl (lv_at hl 1 rfl) ?_
                refine va_get (D := D) (ci := 5) (v := .ref (ad 20)) (C := RX5) (T := TX5) (N := 30) hx hb hts hiX5 hown hK hP 0 (wM_0 ad cA σ0) rfl 26 (by decide) hw5 (fun _ h9 => h9) rfl dX5_arrive_131 ?_
                refine lv_iload_n hx hb dX5_arrive_134 rfl (lv_at hl 2 rfl) ?_
                obtain ⟨hb_19, hF⟩ := chk_some hF
                refine va_iald hx hb hK hP 20 19 (wM_20 ad cA σ0) (tM_20 cA) hb_19 dX5_arrive_135 ?_
                refine lv_iload_n hx hb dX5_arrive_136 rfl (lv_at hl 3 rfl) ?_
                refine lv_iload hx hb dX5_arrive_137 (lv_at hl 0 rfl) ?_
                obtain ⟨σ20, e20, hF⟩ := bR_some hF
                refine gc_Vv (As := [.int (σ0.1 20 (x1).toNatClampNeg), .int x2, .int (σ0.1 23 (((6 * x1) + x3)).toNatClampNeg)]) hS9 (tyc_M_puts l D ad cA _ σ0 (σ0.1 20 (x1).toNatClampNeg) x2 (σ0.1 23 (((6 * x1) + x3)).toNatClampNeg) σ20 e20) (cwV 3 hts gX5_arrive_X5_puts rfl rfl rfl hd_X5_puts ⟨by decide, by decide⟩) hK hP hD hS hA hNN (ci := 5) (q0 := 0) (N := 30) rfl (wM_0 ad cA σ0) rfl hl.1 rfl (Nat.le_of_ble_eq_true rfl) dX5_arrive_139 (fun H locs hP hD hS => ?_)
                refine lv_aload_n hx hb dX5_arrive_142 rfl (lv_at hl 1 rfl) ?_
                refine va_get (D := D) (ci := 5) (v := .ref (ad 13)) (C := RX5) (T := TX5) (N := 30) hx hb hts hiX5 hown hK hP 0 (wM_0 ad cA σ20) rfl 18 (by decide) hw8 (fun _ h9 => h9) rfl dX5_arrive_143 ?_
                refine lv_aload_n hx hb dX5_arrive_146 rfl (lv_at hl 1 rfl) ?_
                refine va_get (D := D) (ci := 5) (v := .ref (ad 3)) (C := RX5) (T := TX5) (N := 30) hx hb hts hiX5 hown hK hP 0 (wM_0 ad cA σ20) rfl 5 (by decide) hw9 (fun _ h9 => h9) rfl dX5_arrive_147 ?_
                refine lv_iload hx hb dX5_arrive_150 (lv_at hl 0 rfl) ?_
                obtain ⟨hb_21, hF⟩ := chk_some hF
                refine va_iald hx hb hK hP 3 2 (wM_3 ad cA σ20) (tM_3 cA) hb_21 dX5_arrive_152 ?_
                refine lv_iconst (v := 4) hx hb dX5_arrive_153 (by decide) ?_
                obtain ⟨hb_22, hF⟩ := chk_some hF
                obtain ⟨σ23, e23, hF⟩ := stp_some hF
                refine gw_iast hx hb hK hP hD hS (wM_13 ad cA σ20) (tM_13 cA) (wMs_13 ad cA σ20) hb_22 dX5_arrive_154 e23 (fun H locs hP hD hS => ?_)
                refine lv_iinc (v := (x3 + 1)) (lv' := [(3, .int (x3 + 1)), (4, .int (σ0.1 23 (((6 * x1) + x3)).toNatClampNeg)), (0, .ref (ad 0)), (1, .int x1), (2, .int x2)]) hx hb dX5_arrive_155 hl (k := 4) rfl rfl (by decide) rfl (fun ls hl => ?_)
                refine lv_goto (tgt := 106) hx hb dX5_arrive_158 (by decide) ?_
                exact ih σ23 x1 x2 (x3 + 1) hF _ _ _ hP hD hS (lv_sub hl [2, 3, 4, 0] rfl)
          refine lp106 _ ?_ 64 σ15 p1 p2 0 hF _ _ _ hP hD hS (lv_sub hl [1, 2, 3, 0] rfl)
          intro σ0 x1 x2 x3 hF H locs ls hP hD hS hl
          refine lv_aload_n hx hb dX5_arrive_161 rfl (lv_at hl 0 rfl) ?_
          refine va_get (D := D) (ci := 5) (v := .ref (ad 4)) (C := RX5) (T := TX5) (N := 30) hx hb hts hiX5 hown hK hP 0 (wM_0 ad cA σ0) rfl 6 (by decide) hw4 (fun _ h9 => h9) rfl dX5_arrive_162 ?_
          refine lv_iconst (v := 5) hx hb dX5_arrive_165 (by decide) ?_
          refine lv_aload_n hx hb dX5_arrive_166 rfl (lv_at hl 0 rfl) ?_
          refine va_get (D := D) (ci := 5) (v := .ref (ad 20)) (C := RX5) (T := TX5) (N := 30) hx hb hts hiX5 hown hK hP 0 (wM_0 ad cA σ0) rfl 26 (by decide) hw5 (fun _ h9 => h9) rfl dX5_arrive_167 ?_
          refine lv_iload_n hx hb dX5_arrive_170 rfl (lv_at hl 1 rfl) ?_
          obtain ⟨hb_24, hF⟩ := chk_some hF
          refine va_iald hx hb hK hP 20 19 (wM_20 ad cA σ0) (tM_20 cA) hb_24 dX5_arrive_171 ?_
          refine lv_imul hx hb dX5_arrive_172 ?_
          refine lv_iload_n hx hb dX5_arrive_173 rfl (lv_at hl 2 rfl) ?_
          refine lv_iadd hx hb dX5_arrive_174 ?_
          obtain ⟨hb_25, hF⟩ := chk_some hF
          refine va_iald hx hb hK hP 4 3 (wM_4 ad cA σ0) (tM_4 cA) hb_25 dX5_arrive_175 ?_
          exact g_iretN hx hb hr rfl hlocks hP hK hD hS dX5_arrive_176 hF
        · have hF := iteF hF c_12
          refine lv_iconst (v := 3) hx hb dX5_arrive_80 (by decide) ?_
          refine lv_goto (tgt := 85) hx hb dX5_arrive_81 (by decide) ?_
          obtain ⟨σ26, e26, hF⟩ := stp_some hF
          refine gw_put hx hb hts hiX5 tyX5 tyX5_ok nmX5 hown hK hP hD hS 0 (wM_0 ad cA σ5) rfl 0 (by decide) hw2 (fun _ h9 => h9) rfl (by decide +kernel) (show 0 < 30 from by decide) (wMv_0 ad cA σ5 _) dX5_arrive_85 e26 (fun H locs hP hD hS => ?_)
          refine lv_aload_n hx hb dX5_arrive_88 rfl (lv_at hl 0 rfl) ?_
          refine va_get (D := D) (ci := 5) (v := .int (σ26.2 0)) (C := RX5) (T := TX5) (N := 30) hx hb hts hiX5 hown hK hP 0 (wM_0 ad cA σ26) rfl 0 (by decide) hw2 (fun _ h9 => h9) rfl dX5_arrive_89 ?_
          refine lv_as (y := 3) (by rw [e26]; rfl) ?_
          refine lv_if_le (tgt := 97) hx hb dX5_arrive_92 (by decide) (fun h9 => absurd h9 (by decide)) (fun _ => ?_)
          refine lv_iconst (v := 0) hx hb dX5_arrive_95 (by decide) ?_
          exact g_iretN hx hb hr rfl hlocks hP hK hD hS dX5_arrive_96 hF
    · have hF := iteT hF c_4
      refine lv_iconst (v := 2) hx hb dX5_arrive_28 (by decide) ?_
      refine lv_goto (tgt := 33) hx hb dX5_arrive_29 (by decide) ?_
      obtain ⟨σ27, e27, hF⟩ := stp_some hF
      refine gw_put hx hb hts hiX5 tyX5 tyX5_ok nmX5 hown hK hP hD hS 0 (wM_0 ad cA σ) rfl 0 (by decide) hw2 (fun _ h9 => h9) rfl (by decide +kernel) (show 0 < 30 from by decide) (wMv_0 ad cA σ _) dX5_arrive_33 e27 (fun H locs hP hD hS => ?_)
      refine lv_aload_n hx hb dX5_arrive_36 rfl (lv_at hl 0 rfl) ?_
      refine va_get (D := D) (ci := 5) (v := .int (σ27.2 0)) (C := RX5) (T := TX5) (N := 30) hx hb hts hiX5 hown hK hP 0 (wM_0 ad cA σ27) rfl 0 (by decide) hw2 (fun _ h9 => h9) rfl dX5_arrive_37 ?_
      refine lv_as (y := 2) (by rw [e27]; rfl) ?_
      refine lv_if_ne (tgt := 88) hx hb dX5_arrive_40 (by decide) (fun _ => ?_) (fun h9 => absurd h9 (by decide))
      refine lv_aload_n hx hb dX5_arrive_88 rfl (lv_at hl 0 rfl) ?_
      refine va_get (D := D) (ci := 5) (v := .int (σ27.2 0)) (C := RX5) (T := TX5) (N := 30) hx hb hts hiX5 hown hK hP 0 (wM_0 ad cA σ27) rfl 0 (by decide) hw2 (fun _ h9 => h9) rfl dX5_arrive_89 ?_
      refine lv_as (y := 2) (by rw [e27]; rfl) ?_
      refine lv_if_le (tgt := 97) hx hb dX5_arrive_92 (by decide) (fun h9 => absurd h9 (by decide)) (fun _ => ?_)
      refine lv_iconst (v := 0) hx hb dX5_arrive_95 (by decide) ?_
      exact g_iretN hx hb hr rfl hlocks hP hK hD hS dX5_arrive_96 hF
  · have hF := iteT hF c_2
    refine lv_iconst (v := 1) hx hb dX5_arrive_15 (by decide) ?_
    refine lv_goto (tgt := 33) hx hb dX5_arrive_16 (by decide) ?_
    obtain ⟨σ28, e28, hF⟩ := stp_some hF
    refine gw_put hx hb hts hiX5 tyX5 tyX5_ok nmX5 hown hK hP hD hS 0 (wM_0 ad cA σ) rfl 0 (by decide) hw2 (fun _ h9 => h9) rfl (by decide +kernel) (show 0 < 30 from by decide) (wMv_0 ad cA σ _) dX5_arrive_33 e28 (fun H locs hP hD hS => ?_)
    refine lv_aload_n hx hb dX5_arrive_36 rfl (lv_at hl 0 rfl) ?_
    refine va_get (D := D) (ci := 5) (v := .int (σ28.2 0)) (C := RX5) (T := TX5) (N := 30) hx hb hts hiX5 hown hK hP 0 (wM_0 ad cA σ28) rfl 0 (by decide) hw2 (fun _ h9 => h9) rfl dX5_arrive_37 ?_
    refine lv_as (y := 1) (by rw [e28]; rfl) ?_
    refine lv_if_ne (tgt := 88) hx hb dX5_arrive_40 (by decide) (fun _ => ?_) (fun h9 => absurd h9 (by decide))
    refine lv_aload_n hx hb dX5_arrive_88 rfl (lv_at hl 0 rfl) ?_
    refine va_get (D := D) (ci := 5) (v := .int (σ28.2 0)) (C := RX5) (T := TX5) (N := 30) hx hb hts hiX5 hown hK hP 0 (wM_0 ad cA σ28) rfl 0 (by decide) hw2 (fun _ h9 => h9) rfl dX5_arrive_89 ?_
    refine lv_as (y := 1) (by rw [e28]; rfl) ?_
    refine lv_if_le (tgt := 97) hx hb dX5_arrive_92 (by decide) (fun h9 => absurd h9 (by decide)) (fun _ => ?_)
    refine lv_iconst (v := 0) hx hb dX5_arrive_95 (by decide) ?_
    exact g_iretN hx hb hr rfl hlocks hP hK hD hS dX5_arrive_96 hF
set_option maxHeartbeats 4000000 in
set_option maxRecDepth 100000 in
theorem tyc_M_trains (l : Launch) (D : va_G) (ad : Nat → Nat) (cA : Nat → ClassId) (sz : Nat) (σ : tyS) (r : Int32) (τ : tyS) (hF : tyf_M_trains σ  = some (r, τ)) : gMi l yX5_trains wsX5_trains ({ frames := 0, cells := 0, slots := 0, locals := 0 } : Room) D (wM ad cA) (tM cA) [.ref (ad 0)] sz σ r τ := by
  refine Met.ofW (cc := cX5_trains) (maxL := 1) (ret := (some .int)) (by decide) rfl ?_
  intro p e s m args below meth c s₁ B hml hv
  obtain ⟨rfl, hsz, hP, hK, hD0, hNN⟩ := hv
  have hx := B.exec
  have hb := B.bytes
  have hr := B.returns
  have hts := atoms_spec (ws := wsX5_trains) B.pre
  have hown : s.vm.findClass RX5 = some m.cls := findClass_of_methodNamed B.named
  have hlocks := B.notSynchronized
  subst hsz
  have hD := hD0.self (sz := s.heap.size)
  generalize hAe : va_A (wM ad cA σ) s.heap.size = A at hD ⊢
  have hA : ∀ q : Nat, s.heap.size ≤ q → A q := fun q h => by rw [← hAe]; exact Or.inr h
  clear hAe hD0
  have hS : va_S A s.heap s.heap [] := va_S.rf
  have hl := lv_entry ([.ref (ad 0)]) (n := 1) (Nat.le_of_ble_eq_true rfl)
  rw [lg_entry_eq]
  generalize (lg_sl ([.ref (ad 0)]) ++ List.replicate (1 - (lg_sl ([.ref (ad 0)])).length) Slot.unset).toArray = ls at hl ⊢
  have hl : lv_has ls 1 [(0, .ref (ad 0))] := hl
  have hw0 := hts (.fieldLink RX5 80 "TrunkYardsModel" "thrown" "I") (List.mem_cons_of_mem _ (List.mem_of_getElem? (i := 0) rfl))
  have hiX5 : ∀ w ∈ wsX50, w ∈ wsX5_trains := fun w h => List.mem_cons_of_mem _ (List.mem_append_right _ h)
  have hw2 := hts (.fieldLink RX5 183 "TrunkYardsModel" "trains" "I") (List.mem_cons_of_mem _ (List.mem_of_getElem? (i := 1) rfl))
  unfold tyf_M_trains at hF
  refine lv_aload_n hx hb dX5_trains_0 rfl (lv_at hl 0 rfl) ?_
  refine lv_iconst (v := 0) hx hb dX5_trains_1 (by decide) ?_
  obtain ⟨σ1, e1, hF⟩ := stp_some hF
  refine gw_put hx hb hts hiX5 tyX5 tyX5_ok nmX5 hown hK hP hD hS 0 (wM_0 ad cA σ) rfl 0 (by decide) hw0 (fun _ h9 => h9) rfl (by decide +kernel) (show 0 < 30 from by decide) (wMv_0 ad cA σ _) dX5_trains_2 e1 (fun H locs hP hD hS => ?_)
  refine lv_aload_n hx hb dX5_trains_5 rfl (lv_at hl 0 rfl) ?_
  refine va_get (D := D) (ci := 5) (v := .int (σ1.2 6)) (C := RX5) (T := TX5) (N := 30) hx hb hts hiX5 hown hK hP 0 (wM_0 ad cA σ1) rfl 25 (by decide) hw2 (fun _ h9 => h9) rfl dX5_trains_6 ?_
  exact g_iretN hx hb hr rfl hlocks hP hK hD hS dX5_trains_9 hF
