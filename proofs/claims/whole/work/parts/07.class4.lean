set_option maxHeartbeats 4000000 in
set_option maxRecDepth 100000 in
theorem tyc_B_yard (l : Launch) (D : va_G) (ad : Nat → Nat) (cA : Nat → ClassId) (sz : Nat) (σ : tyS) (p1 : Int32) (r : Int32) (hF : tyf_B_yard σ p1 = some r) : gMi l yX3_yard wsX3_yard ({ frames := 0, cells := 0, slots := 0, locals := 0 } : Room) D (wC ad cA) (tC cA) [.ref (ad 5), .int p1] sz σ r σ := by
  refine Met.ofW (cc := cX3_yard) (maxL := 2) (ret := (some .int)) (by decide) rfl ?_
  intro p e s m args below meth c s₁ B hml hv
  obtain ⟨rfl, hsz, hP, hK, hD0, hNN⟩ := hv
  have hx := B.exec
  have hb := B.bytes
  have hr := B.returns
  have hts := atoms_spec (ws := wsX3_yard) B.pre
  have hown : s.vm.findClass RX3 = some m.cls := findClass_of_methodNamed B.named
  have hlocks := B.notSynchronized
  subst hsz
  have hD := hD0.self (sz := s.heap.size)
  generalize hAe : va_A (wC ad cA σ) s.heap.size = A at hD ⊢
  have hA : ∀ q : Nat, s.heap.size ≤ q → A q := fun q h => by rw [← hAe]; exact Or.inr h
  clear hAe hD0
  have hS : va_S A s.heap s.heap [] := va_S.rf
  have hl := lv_entry ([.ref (ad 5), .int p1]) (n := 2) (Nat.le_of_ble_eq_true rfl)
  rw [lg_entry_eq]
  generalize (lg_sl ([.ref (ad 5), .int p1]) ++ List.replicate (2 - (lg_sl ([.ref (ad 5), .int p1])).length) Slot.unset).toArray = ls at hl ⊢
  have hl : lv_has ls 2 [(0, .ref (ad 5)), (1, .int p1)] := hl
  have hw0 := hts (.fieldLink RX3 15 "TrunkYards$Switchboard" "yards" "[I") (List.mem_cons_of_mem _ (List.mem_of_getElem? (i := 0) rfl))
  have hiX3 : ∀ w ∈ wsX30, w ∈ wsX3_yard := fun w h => List.mem_cons_of_mem _ (List.mem_append_right _ h)
  unfold tyf_B_yard at hF
  refine lv_aload_n hx hb dX3_yard_0 rfl (lv_at hl 0 rfl) ?_
  refine va_get (D := D) (ci := 3) (v := .ref (ad 22)) (C := RX3) (T := TX3) (N := 9) hx hb hts hiX3 hown hK hP 5 (wC_5 ad cA σ) rfl 1 (by decide) hw0 (fun _ h9 => h9) rfl dX3_yard_1 ?_
  refine lv_iload_n hx hb dX3_yard_4 rfl (lv_at hl 1 rfl) ?_
  obtain ⟨hb_1, hF⟩ := chk_some hF
  refine va_iald hx hb hK hP 22 16 (wC_22 ad cA σ) (tC_22 cA) hb_1 dX3_yard_5 ?_
  exact g_iretR hx hb hr rfl hlocks hP hK hD hS dX3_yard_6 hF
set_option maxHeartbeats 4000000 in
set_option maxRecDepth 100000 in
theorem tyc_T_fits (l : Launch) (D : va_G) (ad : Nat → Nat) (cA : Nat → ClassId) (sz : Nat) (σ : tyS) (p1 : Int32) (p2 : Int32) (r : Int32) (hF : tyf_T_fits σ p1 p2 = some r) : gMi l yX4_fits wsX4_fits ({ frames := 0, cells := 0, slots := 0, locals := 0 } : Room) D (wC ad cA) (tC cA) [.ref (ad 0), .int p1, .int p2] sz σ r σ := by
  refine Met.ofW (cc := cX4_fits) (maxL := 4) (ret := (some .boolean)) (by decide) rfl ?_
  intro p e s m args below meth c s₁ B hml hv
  obtain ⟨rfl, hsz, hP, hK, hD0, hNN⟩ := hv
  have hx := B.exec
  have hb := B.bytes
  have hr := B.returns
  have hts := atoms_spec (ws := wsX4_fits) B.pre
  have hown : s.vm.findClass RX4 = some m.cls := findClass_of_methodNamed B.named
  have hlocks := B.notSynchronized
  subst hsz
  have hD := hD0.self (sz := s.heap.size)
  generalize hAe : va_A (wC ad cA σ) s.heap.size = A at hD ⊢
  have hA : ∀ q : Nat, s.heap.size ≤ q → A q := fun q h => by rw [← hAe]; exact Or.inr h
  clear hAe hD0
  have hS : va_S A s.heap s.heap [] := va_S.rf
  have hl := lv_entry ([.ref (ad 0), .int p1, .int p2]) (n := 4) (Nat.le_of_ble_eq_true rfl)
  rw [lg_entry_eq]
  generalize (lg_sl ([.ref (ad 0), .int p1, .int p2]) ++ List.replicate (4 - (lg_sl ([.ref (ad 0), .int p1, .int p2])).length) Slot.unset).toArray = ls at hl ⊢
  have hl : lv_has ls 4 [(0, .ref (ad 0)), (1, .int p1), (2, .int p2)] := hl
  have hw0 := hts (.fieldLink RX4 40 "TrunkYards" "lastGrain" "[I") (List.mem_cons_of_mem _ (List.mem_of_getElem? (i := 0) rfl))
  have hiX4 : ∀ w ∈ wsX40, w ∈ wsX4_fits := fun w h => List.mem_cons_of_mem _ (List.mem_append_right _ h)
  have hw2 := hts (.fieldLink RX4 50 "TrunkYards" "mayFollow" "[Z") (List.mem_cons_of_mem _ (List.mem_of_getElem? (i := 1) rfl))
  unfold tyf_T_fits at hF
  refine lv_aload_n hx hb dX4_fits_0 rfl (lv_at hl 0 rfl) ?_
  refine va_get (D := D) (ci := 4) (v := .ref (ad 29)) (C := RX4) (T := TX4) (N := 12) hx hb hts hiX4 hown hK hP 0 (wC_0 ad cA σ) rfl 5 (by decide) hw0 (fun _ h9 => h9) rfl dX4_fits_1 ?_
  refine lv_iload_n hx hb dX4_fits_4 rfl (lv_at hl 1 rfl) ?_
  obtain ⟨hb_1, hF⟩ := chk_some hF
  refine va_iald hx hb hK hP 29 23 (wC_29 ad cA σ) (tC_29 cA) hb_1 dX4_fits_5 ?_
  refine lv_istore_n (lv' := [(3, .int (σ.1 29 (p1).toNatClampNeg)), (0, .ref (ad 0)), (1, .int p1), (2, .int p2)]) hx hb dX4_fits_6 rfl hl (by decide) rfl (fun ls hl => ?_)
  refine lv_iload_n hx hb dX4_fits_7 rfl (lv_at hl 0 rfl) ?_
  refine lv_iconst (v := (-1)) hx hb dX4_fits_8 (by decide) ?_
  refine lv_icmp_eq (tgt := 30) hx hb dX4_fits_9 (by decide) (fun c_2 => ?_) (fun c_2 => ?_)
  · have hF := iteT hF c_2
    refine lv_iconst (v := 1) hx hb dX4_fits_30 (by decide) ?_
    refine lv_goto (tgt := 35) hx hb dX4_fits_31 (by decide) ?_
    exact g_iretR hx hb hr rfl hlocks hP hK hD hS dX4_fits_35 hF
  · have hF := iteF hF c_2
    refine lv_iload_n hx hb dX4_fits_12 rfl (lv_at hl 0 rfl) ?_
    refine lv_iload_n hx hb dX4_fits_13 rfl (lv_at hl 3 rfl) ?_
    refine lv_icmp_eq (tgt := 30) hx hb dX4_fits_14 (by decide) (fun c_3 => ?_) (fun c_3 => ?_)
    · have hF := iteT hF c_3
      refine lv_iconst (v := 1) hx hb dX4_fits_30 (by decide) ?_
      refine lv_goto (tgt := 35) hx hb dX4_fits_31 (by decide) ?_
      exact g_iretR hx hb hr rfl hlocks hP hK hD hS dX4_fits_35 hF
    · have hF := iteF hF c_3
      refine lv_aload_n hx hb dX4_fits_17 rfl (lv_at hl 1 rfl) ?_
      refine va_get (D := D) (ci := 4) (v := .ref (ad 30)) (C := RX4) (T := TX4) (N := 12) hx hb hts hiX4 hown hK hP 0 (wC_0 ad cA σ) rfl 6 (by decide) hw2 (fun _ h9 => h9) rfl dX4_fits_18 ?_
      refine lv_iload_n hx hb dX4_fits_21 rfl (lv_at hl 0 rfl) ?_
      refine lv_iconst (v := 4) hx hb dX4_fits_22 (by decide) ?_
      refine lv_imul hx hb dX4_fits_23 ?_
      refine lv_iload_n hx hb dX4_fits_24 rfl (lv_at hl 3 rfl) ?_
      refine lv_iadd hx hb dX4_fits_25 ?_
      obtain ⟨hb_4, hF⟩ := chk_some hF
      refine va_zald hx hb hK hP 30 24 (wC_30 ad cA σ) (tC_30 cA) hb_4 dX4_fits_26 ?_
      refine lv_if_eq (tgt := 34) hx hb dX4_fits_27 (by decide) (fun c_5 => ?_) (fun c_5 => ?_)
      · have hF := iteT hF c_5
        refine lv_iconst (v := 0) hx hb dX4_fits_34 (by decide) ?_
        exact g_iretR hx hb hr rfl hlocks hP hK hD hS dX4_fits_35 hF
      · have hF := iteF hF c_5
        refine lv_iconst (v := 1) hx hb dX4_fits_30 (by decide) ?_
        refine lv_goto (tgt := 35) hx hb dX4_fits_31 (by decide) ?_
        exact g_iretR hx hb hr rfl hlocks hP hK hD hS dX4_fits_35 hF
set_option maxHeartbeats 4000000 in
set_option maxRecDepth 100000 in
theorem tyc_T_findWagon (l : Launch) (D : va_G) (ad : Nat → Nat) (cA : Nat → ClassId) (sz : Nat) (σ : tyS) (p1 : Int32) (p2 : Int32) (r : Int32) (hF : tyf_T_findWagon σ p1 p2 = some r) : gMi l yX4_findWagon wsX4_findWagon ({ frames := 1, cells := 0, slots := 0, locals := 23 } : Room) D (wC ad cA) (tC cA) [.ref (ad 0), .int p1, .int p2] sz σ r σ := by
  refine Met.ofW (cc := cX4_findWagon) (maxL := 8) (ret := (some .int)) (by decide) rfl ?_
  intro p e s m args below meth c s₁ B hml hv
  obtain ⟨rfl, hsz, hP, hK, hD0, hNN⟩ := hv
  have hx := B.exec
  have hb := B.bytes
  have hr := B.returns
  have hts := atoms_spec (ws := wsX4_findWagon) B.pre
  have hown : s.vm.findClass RX4 = some m.cls := findClass_of_methodNamed B.named
  have hlocks := B.notSynchronized
  subst hsz
  have hD := hD0.self (sz := s.heap.size)
  generalize hAe : va_A (wC ad cA σ) s.heap.size = A at hD ⊢
  have hA : ∀ q : Nat, s.heap.size ≤ q → A q := fun q h => by rw [← hAe]; exact Or.inr h
  clear hAe hD0
  have hS : va_S A s.heap s.heap [] := va_S.rf
  have hl := lv_entry ([.ref (ad 0), .int p1, .int p2]) (n := 8) (Nat.le_of_ble_eq_true rfl)
  rw [lg_entry_eq]
  generalize (lg_sl ([.ref (ad 0), .int p1, .int p2]) ++ List.replicate (8 - (lg_sl ([.ref (ad 0), .int p1, .int p2])).length) Slot.unset).toArray = ls at hl ⊢
  have hl : lv_has ls 8 [(0, .ref (ad 0)), (1, .int p1), (2, .int p2)] := hl
  have hS9 : CallFix p m c cX4_findWagon 8 s _ wsX4_findWagon RX4 := ⟨hx, hb, hml, hown, hts⟩
  have hw0 := hts (.fieldLink RX4 12 "TrunkYards" "rows" "LTrunkYards$Rows;") (List.mem_cons_of_mem _ (List.mem_of_getElem? (i := 0) rfl))
  have hiX4 : ∀ w ∈ wsX40, w ∈ wsX4_findWagon := fun w h => List.mem_cons_of_mem _ (List.mem_append_left _ (List.mem_append_left _ (List.mem_append_right _ h)))
  have hw2 := hts (.fieldLink RX4 29 "TrunkYards" "ledger" "LTrunkYards$Ledger;") (List.mem_cons_of_mem _ (List.mem_of_getElem? (i := 1) rfl))
  unfold tyf_T_findWagon at hF
  refine lv_iconst (v := 0) hx hb dX4_findWagon_0 (by decide) ?_
  refine lv_istore_n (lv' := [(3, .int 0), (0, .ref (ad 0)), (1, .int p1), (2, .int p2)]) hx hb dX4_findWagon_1 rfl hl (by decide) rfl (fun ls hl => ?_)
  have lp2 : ∀ (k : Int32 → Int32 → Int32 → Option Int32), (∀ (x1 : Int32) (x2 : Int32) (x3 : Int32) , k x1 x2 x3 = some r → ∀ (H : Heap) (locs : List Loc) (ls : Array Slot), va_P D vwCl (wC ad cA σ) H → va_D A (wC ad cA σ) → va_S A s.heap H locs → lv_has ls 8 [(0, .ref (ad 0)), (1, .int x1), (2, .int x2), (3, .int x3)] → W p l e (headSpec wsX4_findWagon ({ frames := 1, cells := 0, slots := 0, locals := 23 } : Room)).room s m #[.ref (ad 0), .int p1, .int p2] below meth c H locs 0 0 (MQ below (gQi D (wC ad cA) (tC cA) A r σ) #[.ref (ad 0), .int p1, .int p2] s 0 0 A) (F0 m 96 ls [])) → ∀ (n : Nat), ∀ (x1 : Int32) (x2 : Int32) (x3 : Int32) , tyl_T_findWagon_2 σ k n x1 x2 x3 = some r → ∀ (H : Heap) (locs : List Loc) (ls : Array Slot), va_P D vwCl (wC ad cA σ) H → va_D A (wC ad cA σ) → va_S A s.heap H locs → lv_has ls 8 [(0, .ref (ad 0)), (1, .int x1), (2, .int x2), (3, .int x3)] → W p l e (headSpec wsX4_findWagon ({ frames := 1, cells := 0, slots := 0, locals := 23 } : Room)).room s m #[.ref (ad 0), .int p1, .int p2] below meth c H locs 0 0 (MQ below (gQi D (wC ad cA) (tC cA) A r σ) #[.ref (ad 0), .int p1, .int p2] s 0 0 A) (F0 m 2 ls []) := by
    intro k hk n
    induction n with
    | zero =>
      intro x1 x2 x3 hF
      exact absurd hF (fun h => nomatch h)
    | succ n ih =>
      intro x1 x2 x3 hF H locs ls hP hD hS hl
      have hF : tyb_T_findWagon_2 σ k (tyl_T_findWagon_2 σ k n) x1 x2 x3 = some r := hF
      unfold tyb_T_findWagon_2 at hF
      refine lv_iload_n hx hb dX4_findWagon_2 rfl (lv_at hl 3 rfl) ?_
      refine lv_bipush (v := 6) hx hb dX4_findWagon_3 (by decide) ?_
      refine lv_icmp_ge (tgt := 96) hx hb dX4_findWagon_5 (by decide) (fun c_1 => ?_) (fun c_1 => ?_)
      · have hF := iteT hF c_1
        exact hk  x1 x2 x3 hF _ _ _ hP hD hS (lv_sub hl [0, 1, 2, 3] rfl)
      · have hF := iteF hF c_1
        refine lv_iconst (v := 0) hx hb dX4_findWagon_8 (by decide) ?_
        refine lv_istore (lv' := [(4, .int 0), (0, .ref (ad 0)), (1, .int x1), (2, .int x2), (3, .int x3)]) hx hb dX4_findWagon_9 hl (by decide) rfl (fun ls hl => ?_)
        have lp11 : ∀ (k : Int32 → Int32 → Int32 → Int32 → Option Int32), (∀ (x1 : Int32) (x2 : Int32) (x3 : Int32) (x4 : Int32) , k x1 x2 x3 x4 = some r → ∀ (H : Heap) (locs : List Loc) (ls : Array Slot), va_P D vwCl (wC ad cA σ) H → va_D A (wC ad cA σ) → va_S A s.heap H locs → lv_has ls 8 [(0, .ref (ad 0)), (1, .int x1), (2, .int x2), (3, .int x3), (4, .int x4)] → W p l e (headSpec wsX4_findWagon ({ frames := 1, cells := 0, slots := 0, locals := 23 } : Room)).room s m #[.ref (ad 0), .int p1, .int p2] below meth c H locs 0 0 (MQ below (gQi D (wC ad cA) (tC cA) A r σ) #[.ref (ad 0), .int p1, .int p2] s 0 0 A) (F0 m 90 ls [])) → ∀ (n : Nat), ∀ (x1 : Int32) (x2 : Int32) (x3 : Int32) (x4 : Int32) , tyl_T_findWagon_11 σ k n x1 x2 x3 x4 = some r → ∀ (H : Heap) (locs : List Loc) (ls : Array Slot), va_P D vwCl (wC ad cA σ) H → va_D A (wC ad cA σ) → va_S A s.heap H locs → lv_has ls 8 [(0, .ref (ad 0)), (1, .int x1), (2, .int x2), (3, .int x3), (4, .int x4)] → W p l e (headSpec wsX4_findWagon ({ frames := 1, cells := 0, slots := 0, locals := 23 } : Room)).room s m #[.ref (ad 0), .int p1, .int p2] below meth c H locs 0 0 (MQ below (gQi D (wC ad cA) (tC cA) A r σ) #[.ref (ad 0), .int p1, .int p2] s 0 0 A) (F0 m 11 ls []) := by
          intro k hk n
          induction n with
          | zero =>
            intro x1 x2 x3 x4 hF
            exact absurd hF (fun h => nomatch h)
          | succ n ih =>
            intro x1 x2 x3 x4 hF H locs ls hP hD hS hl
            have hF : tyb_T_findWagon_11 σ k (tyl_T_findWagon_11 σ k n) x1 x2 x3 x4 = some r := hF
            unfold tyb_T_findWagon_11 at hF
            refine lv_iload hx hb dX4_findWagon_11 (lv_at hl 4 rfl) ?_
            refine lv_iconst (v := 5) hx hb dX4_findWagon_13 (by decide) ?_
            refine lv_icmp_ge (tgt := 90) hx hb dX4_findWagon_14 (by decide) (fun c_2 => ?_) (fun c_2 => ?_)
            · have hF := iteT hF c_2
              exact hk  x1 x2 x3 x4 hF _ _ _ hP hD hS (lv_sub hl [0, 1, 2, 3, 4] rfl)
            · have hF := iteF hF c_2
              refine lv_iload_n hx hb dX4_findWagon_17 rfl (lv_at hl 1 rfl) ?_
              refine lv_iload hx hb dX4_findWagon_18 (lv_at hl 4 rfl) ?_
              obtain ⟨r3, er3, hF⟩ := bR_some hF
              refine gc_Si (As := [.int x1, .int x4]) hS9 (tyc_T_rowOf l D ad cA _ σ x1 x4 r3 er3) (va_cwS 2 hts gX4_findWagon_X4_rowOf rfl rfl rfl hd_X4_rowOf ⟨by decide, by decide⟩) hK hP hD hS hA hNN rfl hl.1 rfl (Nat.le_of_ble_eq_true rfl) dX4_findWagon_20 (fun H locs hP hD hS => ?_)
              refine lv_istore (lv' := [(5, .int r3), (0, .ref (ad 0)), (1, .int x1), (2, .int x2), (3, .int x3), (4, .int x4)]) hx hb dX4_findWagon_23 hl (by decide) rfl (fun ls hl => ?_)
              refine lv_aload_n hx hb dX4_findWagon_25 rfl (lv_at hl 1 rfl) ?_
              refine va_get (D := D) (ci := 4) (v := .ref (ad 1)) (C := RX4) (T := TX4) (N := 12) hx hb hts hiX4 hown hK hP 0 (wC_0 ad cA σ) rfl 0 (by decide) hw0 (fun _ h9 => h9) rfl dX4_findWagon_26 ?_
              refine lv_iload hx hb dX4_findWagon_29 (lv_at hl 0 rfl) ?_
              obtain ⟨r4, er4, hF⟩ := bR_some hF
              refine gc_Vi (As := [.int r3]) hS9 (tyc_R1_count l D ad cA _ σ r3 r4 er4) (cwV 1 hts gX4_findWagon_X2_count rfl rfl rfl hd_X2_count ⟨by decide, by decide⟩) hK hP hD hS hA hNN (ci := 2) (q0 := 1) (N := 2) rfl (wC_1 ad cA σ) rfl hl.1 rfl (Nat.le_of_ble_eq_true rfl) dX4_findWagon_31 (fun H locs hP hD hS => ?_)
              refine lv_iconst (v := 1) hx hb dX4_findWagon_34 (by decide) ?_
              refine lv_isub hx hb dX4_findWagon_35 ?_
              refine lv_iload_n hx hb dX4_findWagon_36 rfl (lv_at hl 4 rfl) ?_
              refine lv_isub hx hb dX4_findWagon_37 ?_
              refine lv_istore (lv' := [(6, .int ((r4 - 1) - x3)), (5, .int r3), (0, .ref (ad 0)), (1, .int x1), (2, .int x2), (3, .int x3), (4, .int x4)]) hx hb dX4_findWagon_38 hl (by decide) rfl (fun ls hl => ?_)
              refine lv_iload hx hb dX4_findWagon_40 (lv_at hl 0 rfl) ?_
              refine lv_if_lt (tgt := 84) hx hb dX4_findWagon_42 (by decide) (fun c_5 => ?_) (fun c_5 => ?_)
              · have hF := iteT hF c_5
                refine lv_iinc (v := (x4 + 1)) (lv' := [(4, .int (x4 + 1)), (6, .int ((r4 - 1) - x3)), (5, .int r3), (0, .ref (ad 0)), (1, .int x1), (2, .int x2), (3, .int x3)]) hx hb dX4_findWagon_84 hl (k := 6) rfl rfl (by decide) rfl (fun ls hl => ?_)
                refine lv_goto (tgt := 11) hx hb dX4_findWagon_87 (by decide) ?_
                exact ih  x1 x2 x3 (x4 + 1) hF _ _ _ hP hD hS (lv_sub hl [3, 4, 5, 6, 0] rfl)
              · have hF := iteF hF c_5
                refine lv_aload_n hx hb dX4_findWagon_45 rfl (lv_at hl 2 rfl) ?_
                refine va_get (D := D) (ci := 4) (v := .ref (ad 1)) (C := RX4) (T := TX4) (N := 12) hx hb hts hiX4 hown hK hP 0 (wC_0 ad cA σ) rfl 0 (by decide) hw0 (fun _ h9 => h9) rfl dX4_findWagon_46 ?_
                refine lv_iload hx hb dX4_findWagon_49 (lv_at hl 1 rfl) ?_
                refine lv_iload hx hb dX4_findWagon_51 (lv_at hl 0 rfl) ?_
                obtain ⟨r6, er6, hF⟩ := bR_some hF
                refine gc_Vi (As := [.int r3, .int ((r4 - 1) - x3)]) hS9 (tyc_R1_get l D ad cA _ σ r3 ((r4 - 1) - x3) r6 er6) (cwV 2 hts gX4_findWagon_X2_get rfl rfl rfl hd_X2_get ⟨by decide, by decide⟩) hK hP hD hS hA hNN (ci := 2) (q0 := 1) (N := 2) rfl (wC_1 ad cA σ) rfl hl.1 rfl (Nat.le_of_ble_eq_true rfl) dX4_findWagon_53 (fun H locs hP hD hS => ?_)
                refine lv_istore (lv' := [(7, .int r6), (6, .int ((r4 - 1) - x3)), (5, .int r3), (0, .ref (ad 0)), (1, .int x1), (2, .int x2), (3, .int x3), (4, .int x4)]) hx hb dX4_findWagon_56 hl (by decide) rfl (fun ls hl => ?_)
                refine lv_aload_n hx hb dX4_findWagon_58 rfl (lv_at hl 3 rfl) ?_
                refine va_get (D := D) (ci := 4) (v := .ref (ad 4)) (C := RX4) (T := TX4) (N := 12) hx hb hts hiX4 hown hK hP 0 (wC_0 ad cA σ) rfl 3 (by decide) hw2 (fun _ h9 => h9) rfl dX4_findWagon_59 ?_
                refine lv_iload hx hb dX4_findWagon_62 (lv_at hl 0 rfl) ?_
                obtain ⟨r7, er7, hF⟩ := bR_some hF
                refine gc_Vi (As := [.int r6]) hS9 (tyc_L_bookingFor l D ad cA _ σ r6 r7 er7) (cwV 1 hts gX4_findWagon_X1_bookingFor rfl rfl rfl hd_X1_bookingFor ⟨by decide, by decide⟩) hK hP hD hS hA hNN (ci := 1) (q0 := 4) (N := 9) rfl (wC_4 ad cA σ) rfl hl.1 rfl (Nat.le_of_ble_eq_true rfl) dX4_findWagon_64 (fun H locs hP hD hS => ?_)
                refine lv_iconst (v := (-1)) hx hb dX4_findWagon_67 (by decide) ?_
                refine lv_icmp_ne (tgt := 84) hx hb dX4_findWagon_68 (by decide) (fun c_8 => ?_) (fun c_8 => ?_)
                · have hF := iteF hF c_8
                  refine lv_iinc (v := (x4 + 1)) (lv' := [(4, .int (x4 + 1)), (7, .int r6), (6, .int ((r4 - 1) - x3)), (5, .int r3), (0, .ref (ad 0)), (1, .int x1), (2, .int x2), (3, .int x3)]) hx hb dX4_findWagon_84 hl (k := 7) rfl rfl (by decide) rfl (fun ls hl => ?_)
                  refine lv_goto (tgt := 11) hx hb dX4_findWagon_87 (by decide) ?_
                  exact ih  x1 x2 x3 (x4 + 1) hF _ _ _ hP hD hS (lv_sub hl [4, 5, 6, 7, 0] rfl)
                · have hF := iteT hF c_8
                  refine lv_aload_n hx hb dX4_findWagon_71 rfl (lv_at hl 3 rfl) ?_
                  refine lv_iload hx hb dX4_findWagon_72 (lv_at hl 0 rfl) ?_
                  refine lv_iload_n hx hb dX4_findWagon_74 rfl (lv_at hl 5 rfl) ?_
                  obtain ⟨r9, er9, hF⟩ := bR_some hF
                  refine gc_Vi (As := [.int r6, .int x2]) hS9 (tyc_T_fits l D ad cA _ σ r6 x2 r9 er9) (cwV 2 hts gX4_findWagon_X4_fits rfl rfl rfl hd_X4_fits ⟨by decide, by decide⟩) hK hP hD hS hA hNN (ci := 4) (q0 := 0) (N := 12) rfl (wC_0 ad cA σ) rfl hl.1 rfl (Nat.le_of_ble_eq_true rfl) dX4_findWagon_75 (fun H locs hP hD hS => ?_)
                  refine lv_if_eq (tgt := 84) hx hb dX4_findWagon_78 (by decide) (fun c_10 => ?_) (fun c_10 => ?_)
                  · have hF := iteT hF c_10
                    refine lv_iinc (v := (x4 + 1)) (lv' := [(4, .int (x4 + 1)), (7, .int r6), (6, .int ((r4 - 1) - x3)), (5, .int r3), (0, .ref (ad 0)), (1, .int x1), (2, .int x2), (3, .int x3)]) hx hb dX4_findWagon_84 hl (k := 7) rfl rfl (by decide) rfl (fun ls hl => ?_)
                    refine lv_goto (tgt := 11) hx hb dX4_findWagon_87 (by decide) ?_
                    exact ih  x1 x2 x3 (x4 + 1) hF _ _ _ hP hD hS (lv_sub hl [4, 5, 6, 7, 0] rfl)
                  · have hF := iteF hF c_10
                    refine lv_iload hx hb dX4_findWagon_81 (lv_at hl 0 rfl) ?_
                    exact g_iretR hx hb hr rfl hlocks hP hK hD hS dX4_findWagon_83 hF
        refine lp11 _ ?_ 64  x1 x2 x3 0 hF _ _ _ hP hD hS (lv_sub hl [1, 2, 3, 4, 0] rfl)
        intro x1 x2 x3 x4 hF H locs ls hP hD hS hl
        refine lv_iinc (v := (x3 + 1)) (lv' := [(3, .int (x3 + 1)), (0, .ref (ad 0)), (1, .int x1), (2, .int x2), (4, .int x4)]) hx hb dX4_findWagon_90 hl (k := 3) rfl rfl (by decide) rfl (fun ls hl => ?_)
        refine lv_goto (tgt := 2) hx hb dX4_findWagon_93 (by decide) ?_
        exact ih  x1 x2 (x3 + 1) hF _ _ _ hP hD hS (lv_sub hl [1, 2, 3, 0] rfl)
  refine lp2 _ ?_ 64  p1 p2 0 hF _ _ _ hP hD hS (lv_sub hl [1, 2, 3, 0] rfl)
  intro x1 x2 x3 hF H locs ls hP hD hS hl
  refine lv_iconst (v := (-1)) hx hb dX4_findWagon_96 (by decide) ?_
  exact g_iretR hx hb hr rfl hlocks hP hK hD hS dX4_findWagon_97 hF
set_option maxHeartbeats 4000000 in
set_option maxRecDepth 100000 in
theorem tyc_L_add (l : Launch) (D : va_G) (ad : Nat → Nat) (cA : Nat → ClassId) (sz : Nat) (σ : tyS) (p1 : Int32) (p2 : Int32) (τ : tyS) (hF : tyf_L_add σ p1 p2 = some τ) : gMv l yX1_add wsX1_add ({ frames := 0, cells := 0, slots := 0, locals := 0 } : Room) D (wC ad cA) (tC cA) [.ref (ad 4), .int p1, .int p2] sz σ τ := by
  refine Met.ofW (cc := cX1_add) (maxL := 3) (ret := none) (by decide) rfl ?_
  intro p e s m args below meth c s₁ B hml hv
  obtain ⟨rfl, hsz, hP, hK, hD0, hNN⟩ := hv
  have hx := B.exec
  have hb := B.bytes
  have hr := B.returns
  have hts := atoms_spec (ws := wsX1_add) B.pre
  have hown : s.vm.findClass RX1 = some m.cls := findClass_of_methodNamed B.named
  have hlocks := B.notSynchronized
  subst hsz
  have hD := hD0.self (sz := s.heap.size)
  generalize hAe : va_A (wC ad cA σ) s.heap.size = A at hD ⊢
  have hA : ∀ q : Nat, s.heap.size ≤ q → A q := fun q h => by rw [← hAe]; exact Or.inr h
  clear hAe hD0
  have hS : va_S A s.heap s.heap [] := va_S.rf
  have hl := lv_entry ([.ref (ad 4), .int p1, .int p2]) (n := 3) (Nat.le_of_ble_eq_true rfl)
  rw [lg_entry_eq]
  generalize (lg_sl ([.ref (ad 4), .int p1, .int p2]) ++ List.replicate (3 - (lg_sl ([.ref (ad 4), .int p1, .int p2])).length) Slot.unset).toArray = ls at hl ⊢
  have hl : lv_has ls 3 [(0, .ref (ad 4)), (1, .int p1), (2, .int p2)] := hl
  have hw0 := hts (.fieldLink RX1 30 "TrunkYards$Ledger" "booked" "[I") (List.mem_cons_of_mem _ (List.mem_of_getElem? (i := 0) rfl))
  have hiX1 : ∀ w ∈ wsX10, w ∈ wsX1_add := fun w h => List.mem_cons_of_mem _ (List.mem_append_right _ h)
  have hw2 := hts (.fieldLink RX1 27 "TrunkYards$Ledger" "sizes" "[I") (List.mem_cons_of_mem _ (List.mem_of_getElem? (i := 1) rfl))
  have hw3 := hts (.fieldLink RX1 33 "TrunkYards$Ledger" "bookingOfWagon" "[I") (List.mem_cons_of_mem _ (List.mem_of_getElem? (i := 2) rfl))
  unfold tyf_L_add at hF
  refine lv_aload_n hx hb dX1_add_0 rfl (lv_at hl 0 rfl) ?_
  refine va_get (D := D) (ci := 1) (v := .ref (ad 19)) (C := RX1) (T := TX1) (N := 9) hx hb hts hiX1 hown hK hP 4 (wC_4 ad cA σ) rfl 6 (by decide) hw0 (fun _ h9 => h9) rfl dX1_add_1 ?_
  refine lv_iload_n hx hb dX1_add_4 rfl (lv_at hl 1 rfl) ?_
  refine lv_bipush (v := 30) hx hb dX1_add_5 (by decide) ?_
  refine lv_imul hx hb dX1_add_7 ?_
  refine lv_aload_n hx hb dX1_add_8 rfl (lv_at hl 0 rfl) ?_
  refine va_get (D := D) (ci := 1) (v := .ref (ad 18)) (C := RX1) (T := TX1) (N := 9) hx hb hts hiX1 hown hK hP 4 (wC_4 ad cA σ) rfl 5 (by decide) hw2 (fun _ h9 => h9) rfl dX1_add_9 ?_
  refine lv_iload_n hx hb dX1_add_12 rfl (lv_at hl 1 rfl) ?_
  obtain ⟨hb_1, hF⟩ := chk_some hF
  refine va_iald hx hb hK hP 18 12 (wC_18 ad cA σ) (tC_18 cA) hb_1 dX1_add_13 ?_
  refine lv_iadd hx hb dX1_add_14 ?_
  refine lv_iload_n hx hb dX1_add_15 rfl (lv_at hl 2 rfl) ?_
  obtain ⟨hb_2, hF⟩ := chk_some hF
  obtain ⟨σ3, e3, hF⟩ := stp_some hF
  refine gw_iast hx hb hK hP hD hS (wC_19 ad cA σ) (tC_19 cA) (wCs_19 ad cA σ) hb_2 dX1_add_16 e3 (fun H locs hP hD hS => ?_)
  refine lv_aload_n hx hb dX1_add_17 rfl (lv_at hl 0 rfl) ?_
  refine va_get (D := D) (ci := 1) (v := .ref (ad 18)) (C := RX1) (T := TX1) (N := 9) hx hb hts hiX1 hown hK hP 4 (wC_4 ad cA σ3) rfl 5 (by decide) hw2 (fun _ h9 => h9) rfl dX1_add_18 ?_
  refine lv_iload_n hx hb dX1_add_21 rfl (lv_at hl 1 rfl) ?_
  refine lv_dup2_11 hx hb dX1_add_22 rfl rfl ?_
  obtain ⟨hb_4, hF⟩ := chk_some hF
  refine va_iald hx hb hK hP 18 12 (wC_18 ad cA σ3) (tC_18 cA) hb_4 dX1_add_23 ?_
  refine lv_iconst (v := 1) hx hb dX1_add_24 (by decide) ?_
  refine lv_iadd hx hb dX1_add_25 ?_
  obtain ⟨hb_5, hF⟩ := chk_some hF
  obtain ⟨σ6, e6, hF⟩ := stp_some hF
  refine gw_iast hx hb hK hP hD hS (wC_18 ad cA σ3) (tC_18 cA) (wCs_18 ad cA σ3) hb_5 dX1_add_26 e6 (fun H locs hP hD hS => ?_)
  refine lv_aload_n hx hb dX1_add_27 rfl (lv_at hl 0 rfl) ?_
  refine va_get (D := D) (ci := 1) (v := .ref (ad 20)) (C := RX1) (T := TX1) (N := 9) hx hb hts hiX1 hown hK hP 4 (wC_4 ad cA σ6) rfl 7 (by decide) hw3 (fun _ h9 => h9) rfl dX1_add_28 ?_
  refine lv_iload_n hx hb dX1_add_31 rfl (lv_at hl 2 rfl) ?_
  refine lv_iload_n hx hb dX1_add_32 rfl (lv_at hl 1 rfl) ?_
  obtain ⟨hb_7, hF⟩ := chk_some hF
  obtain ⟨σ8, e8, hF⟩ := stp_some hF
  refine gw_iast hx hb hK hP hD hS (wC_20 ad cA σ6) (tC_20 cA) (wCs_20 ad cA σ6) hb_7 dX1_add_33 e8 (fun H locs hP hD hS => ?_)
  exact g_vretN hx hb hr hlocks hP hK hD hS dX1_add_34 hF
set_option maxHeartbeats 4000000 in
set_option maxRecDepth 100000 in
theorem tyc_B_customer (l : Launch) (D : va_G) (ad : Nat → Nat) (cA : Nat → ClassId) (sz : Nat) (σ : tyS) (p1 : Int32) (r : Int32) (hF : tyf_B_customer σ p1 = some r) : gMi l yX3_customer wsX3_customer ({ frames := 0, cells := 0, slots := 0, locals := 0 } : Room) D (wC ad cA) (tC cA) [.ref (ad 5), .int p1] sz σ r σ := by
  refine Met.ofW (cc := cX3_customer) (maxL := 2) (ret := (some .int)) (by decide) rfl ?_
  intro p e s m args below meth c s₁ B hml hv
  obtain ⟨rfl, hsz, hP, hK, hD0, hNN⟩ := hv
  have hx := B.exec
  have hb := B.bytes
  have hr := B.returns
  have hts := atoms_spec (ws := wsX3_customer) B.pre
  have hown : s.vm.findClass RX3 = some m.cls := findClass_of_methodNamed B.named
  have hlocks := B.notSynchronized
  subst hsz
  have hD := hD0.self (sz := s.heap.size)
  generalize hAe : va_A (wC ad cA σ) s.heap.size = A at hD ⊢
  have hA : ∀ q : Nat, s.heap.size ≤ q → A q := fun q h => by rw [← hAe]; exact Or.inr h
  clear hAe hD0
  have hS : va_S A s.heap s.heap [] := va_S.rf
  have hl := lv_entry ([.ref (ad 5), .int p1]) (n := 2) (Nat.le_of_ble_eq_true rfl)
  rw [lg_entry_eq]
  generalize (lg_sl ([.ref (ad 5), .int p1]) ++ List.replicate (2 - (lg_sl ([.ref (ad 5), .int p1])).length) Slot.unset).toArray = ls at hl ⊢
  have hl : lv_has ls 2 [(0, .ref (ad 5)), (1, .int p1)] := hl
  have hw0 := hts (.fieldLink RX3 9 "TrunkYards$Switchboard" "customers" "[I") (List.mem_cons_of_mem _ (List.mem_of_getElem? (i := 0) rfl))
  have hiX3 : ∀ w ∈ wsX30, w ∈ wsX3_customer := fun w h => List.mem_cons_of_mem _ (List.mem_append_right _ h)
  unfold tyf_B_customer at hF
  refine lv_aload_n hx hb dX3_customer_0 rfl (lv_at hl 0 rfl) ?_
  refine va_get (D := D) (ci := 3) (v := .ref (ad 21)) (C := RX3) (T := TX3) (N := 9) hx hb hts hiX3 hown hK hP 5 (wC_5 ad cA σ) rfl 0 (by decide) hw0 (fun _ h9 => h9) rfl dX3_customer_1 ?_
  refine lv_iload_n hx hb dX3_customer_4 rfl (lv_at hl 1 rfl) ?_
  obtain ⟨hb_1, hF⟩ := chk_some hF
  refine va_iald hx hb hK hP 21 15 (wC_21 ad cA σ) (tC_21 cA) hb_1 dX3_customer_5 ?_
  exact g_iretR hx hb hr rfl hlocks hP hK hD hS dX3_customer_6 hF
set_option maxHeartbeats 4000000 in
set_option maxRecDepth 100000 in
theorem tyc_L_open (l : Launch) (D : va_G) (ad : Nat → Nat) (cA : Nat → ClassId) (sz : Nat) (σ : tyS) (p1 : Int32) (p2 : Int32) (p3 : Int32) (r : Int32) (τ : tyS) (hF : tyf_L_open σ p1 p2 p3 = some (r, τ)) : gMi l yX1_open wsX1_open ({ frames := 0, cells := 0, slots := 0, locals := 0 } : Room) D (wC ad cA) (tC cA) [.ref (ad 4), .int p1, .int p2, .int p3] sz σ r τ := by
  refine Met.ofW (cc := cX1_open) (maxL := 5) (ret := (some .int)) (by decide) rfl ?_
  intro p e s m args below meth c s₁ B hml hv
  obtain ⟨rfl, hsz, hP, hK, hD0, hNN⟩ := hv
  have hx := B.exec
  have hb := B.bytes
  have hr := B.returns
  have hts := atoms_spec (ws := wsX1_open) B.pre
  have hown : s.vm.findClass RX1 = some m.cls := findClass_of_methodNamed B.named
  have hlocks := B.notSynchronized
  subst hsz
  have hD := hD0.self (sz := s.heap.size)
  generalize hAe : va_A (wC ad cA σ) s.heap.size = A at hD ⊢
  have hA : ∀ q : Nat, s.heap.size ≤ q → A q := fun q h => by rw [← hAe]; exact Or.inr h
  clear hAe hD0
  have hS : va_S A s.heap s.heap [] := va_S.rf
  have hl := lv_entry ([.ref (ad 4), .int p1, .int p2, .int p3]) (n := 5) (Nat.le_of_ble_eq_true rfl)
  rw [lg_entry_eq]
  generalize (lg_sl ([.ref (ad 4), .int p1, .int p2, .int p3]) ++ List.replicate (5 - (lg_sl ([.ref (ad 4), .int p1, .int p2, .int p3])).length) Slot.unset).toArray = ls at hl ⊢
  have hl : lv_has ls 5 [(0, .ref (ad 4)), (1, .int p1), (2, .int p2), (3, .int p3)] := hl
  have hw0 := hts (.fieldLink RX1 42 "TrunkYards$Ledger" "count" "I") (List.mem_cons_of_mem _ (List.mem_of_getElem? (i := 0) rfl))
  have hiX1 : ∀ w ∈ wsX10, w ∈ wsX1_open := fun w h => List.mem_cons_of_mem _ (List.mem_append_right _ h)
  have hw2 := hts (.fieldLink RX1 9 "TrunkYards$Ledger" "customers" "[I") (List.mem_cons_of_mem _ (List.mem_of_getElem? (i := 1) rfl))
  have hw3 := hts (.fieldLink RX1 15 "TrunkYards$Ledger" "yards" "[I") (List.mem_cons_of_mem _ (List.mem_of_getElem? (i := 2) rfl))
  have hw4 := hts (.fieldLink RX1 18 "TrunkYards$Ledger" "grains" "[I") (List.mem_cons_of_mem _ (List.mem_of_getElem? (i := 3) rfl))
  have hw5 := hts (.fieldLink RX1 21 "TrunkYards$Ledger" "standings" "[I") (List.mem_cons_of_mem _ (List.mem_of_getElem? (i := 4) rfl))
  unfold tyf_L_open at hF
  refine lv_aload_n hx hb dX1_open_0 rfl (lv_at hl 0 rfl) ?_
  refine va_get (D := D) (ci := 1) (v := .int (σ.2 5)) (C := RX1) (T := TX1) (N := 9) hx hb hts hiX1 hown hK hP 4 (wC_4 ad cA σ) rfl 8 (by decide) hw0 (fun _ h9 => h9) rfl dX1_open_1 ?_
  refine lv_istore (lv' := [(4, .int (σ.2 5)), (0, .ref (ad 4)), (1, .int p1), (2, .int p2), (3, .int p3)]) hx hb dX1_open_4 hl (by decide) rfl (fun ls hl => ?_)
  refine lv_aload_n hx hb dX1_open_6 rfl (lv_at hl 1 rfl) ?_
  refine lv_dup hx hb dX1_open_7 rfl ?_
  refine va_get (D := D) (ci := 1) (v := .int (σ.2 5)) (C := RX1) (T := TX1) (N := 9) hx hb hts hiX1 hown hK hP 4 (wC_4 ad cA σ) rfl 8 (by decide) hw0 (fun _ h9 => h9) rfl dX1_open_8 ?_
  refine lv_iconst (v := 1) hx hb dX1_open_11 (by decide) ?_
  refine lv_iadd hx hb dX1_open_12 ?_
  obtain ⟨σ1, e1, hF⟩ := stp_some hF
  refine gw_put hx hb hts hiX1 tyX1 tyX1_ok nmX1 hown hK hP hD hS 4 (wC_4 ad cA σ) rfl 8 (by decide) hw0 (fun _ h9 => h9) rfl (by decide +kernel) (show 8 < 9 from by decide) (wCv_5 ad cA σ _) dX1_open_13 e1 (fun H locs hP hD hS => ?_)
  refine lv_aload_n hx hb dX1_open_16 rfl (lv_at hl 1 rfl) ?_
  refine va_get (D := D) (ci := 1) (v := .ref (ad 13)) (C := RX1) (T := TX1) (N := 9) hx hb hts hiX1 hown hK hP 4 (wC_4 ad cA σ1) rfl 0 (by decide) hw2 (fun _ h9 => h9) rfl dX1_open_17 ?_
  refine lv_iload hx hb dX1_open_20 (lv_at hl 0 rfl) ?_
  refine lv_iload_n hx hb dX1_open_22 rfl (lv_at hl 2 rfl) ?_
  obtain ⟨hb_2, hF⟩ := chk_some hF
  obtain ⟨σ3, e3, hF⟩ := stp_some hF
  refine gw_iast hx hb hK hP hD hS (wC_13 ad cA σ1) (tC_13 cA) (wCs_13 ad cA σ1) hb_2 dX1_open_23 e3 (fun H locs hP hD hS => ?_)
  refine lv_aload_n hx hb dX1_open_24 rfl (lv_at hl 1 rfl) ?_
  refine va_get (D := D) (ci := 1) (v := .ref (ad 14)) (C := RX1) (T := TX1) (N := 9) hx hb hts hiX1 hown hK hP 4 (wC_4 ad cA σ3) rfl 1 (by decide) hw3 (fun _ h9 => h9) rfl dX1_open_25 ?_
  refine lv_iload hx hb dX1_open_28 (lv_at hl 0 rfl) ?_
  refine lv_iload_n hx hb dX1_open_30 rfl (lv_at hl 3 rfl) ?_
  obtain ⟨hb_4, hF⟩ := chk_some hF
  obtain ⟨σ5, e5, hF⟩ := stp_some hF
  refine gw_iast hx hb hK hP hD hS (wC_14 ad cA σ3) (tC_14 cA) (wCs_14 ad cA σ3) hb_4 dX1_open_31 e5 (fun H locs hP hD hS => ?_)
  refine lv_aload_n hx hb dX1_open_32 rfl (lv_at hl 1 rfl) ?_
  refine va_get (D := D) (ci := 1) (v := .ref (ad 15)) (C := RX1) (T := TX1) (N := 9) hx hb hts hiX1 hown hK hP 4 (wC_4 ad cA σ5) rfl 2 (by decide) hw4 (fun _ h9 => h9) rfl dX1_open_33 ?_
  refine lv_iload hx hb dX1_open_36 (lv_at hl 0 rfl) ?_
  refine lv_iload_n hx hb dX1_open_38 rfl (lv_at hl 4 rfl) ?_
  obtain ⟨hb_6, hF⟩ := chk_some hF
  obtain ⟨σ7, e7, hF⟩ := stp_some hF
  refine gw_iast hx hb hK hP hD hS (wC_15 ad cA σ5) (tC_15 cA) (wCs_15 ad cA σ5) hb_6 dX1_open_39 e7 (fun H locs hP hD hS => ?_)
  refine lv_aload_n hx hb dX1_open_40 rfl (lv_at hl 1 rfl) ?_
  refine va_get (D := D) (ci := 1) (v := .ref (ad 16)) (C := RX1) (T := TX1) (N := 9) hx hb hts hiX1 hown hK hP 4 (wC_4 ad cA σ7) rfl 3 (by decide) hw5 (fun _ h9 => h9) rfl dX1_open_41 ?_
  refine lv_iload hx hb dX1_open_44 (lv_at hl 0 rfl) ?_
  refine lv_iconst (v := 0) hx hb dX1_open_46 (by decide) ?_
  obtain ⟨hb_8, hF⟩ := chk_some hF
  obtain ⟨σ9, e9, hF⟩ := stp_some hF
  refine gw_iast hx hb hK hP hD hS (wC_16 ad cA σ7) (tC_16 cA) (wCs_16 ad cA σ7) hb_8 dX1_open_47 e9 (fun H locs hP hD hS => ?_)
  refine lv_iload hx hb dX1_open_48 (lv_at hl 0 rfl) ?_
  exact g_iretN hx hb hr rfl hlocks hP hK hD hS dX1_open_50 hF
set_option maxHeartbeats 4000000 in
set_option maxRecDepth 100000 in
theorem tyc_B_setOpenBooking (l : Launch) (D : va_G) (ad : Nat → Nat) (cA : Nat → ClassId) (sz : Nat) (σ : tyS) (p1 : Int32) (p2 : Int32) (τ : tyS) (hF : tyf_B_setOpenBooking σ p1 p2 = some τ) : gMv l yX3_setOpenBooking wsX3_setOpenBooking ({ frames := 0, cells := 0, slots := 0, locals := 0 } : Room) D (wC ad cA) (tC cA) [.ref (ad 5), .int p1, .int p2] sz σ τ := by
  refine Met.ofW (cc := cX3_setOpenBooking) (maxL := 3) (ret := none) (by decide) rfl ?_
  intro p e s m args below meth c s₁ B hml hv
  obtain ⟨rfl, hsz, hP, hK, hD0, hNN⟩ := hv
  have hx := B.exec
  have hb := B.bytes
  have hr := B.returns
  have hts := atoms_spec (ws := wsX3_setOpenBooking) B.pre
  have hown : s.vm.findClass RX3 = some m.cls := findClass_of_methodNamed B.named
  have hlocks := B.notSynchronized
  subst hsz
  have hD := hD0.self (sz := s.heap.size)
  generalize hAe : va_A (wC ad cA σ) s.heap.size = A at hD ⊢
  have hA : ∀ q : Nat, s.heap.size ≤ q → A q := fun q h => by rw [← hAe]; exact Or.inr h
  clear hAe hD0
  have hS : va_S A s.heap s.heap [] := va_S.rf
  have hl := lv_entry ([.ref (ad 5), .int p1, .int p2]) (n := 3) (Nat.le_of_ble_eq_true rfl)
  rw [lg_entry_eq]
  generalize (lg_sl ([.ref (ad 5), .int p1, .int p2]) ++ List.replicate (3 - (lg_sl ([.ref (ad 5), .int p1, .int p2])).length) Slot.unset).toArray = ls at hl ⊢
  have hl : lv_has ls 3 [(0, .ref (ad 5)), (1, .int p1), (2, .int p2)] := hl
  have hw0 := hts (.fieldLink RX3 18 "TrunkYards$Switchboard" "openBookings" "[I") (List.mem_cons_of_mem _ (List.mem_of_getElem? (i := 0) rfl))
  have hiX3 : ∀ w ∈ wsX30, w ∈ wsX3_setOpenBooking := fun w h => List.mem_cons_of_mem _ (List.mem_append_right _ h)
  unfold tyf_B_setOpenBooking at hF
  refine lv_aload_n hx hb dX3_setOpenBooking_0 rfl (lv_at hl 0 rfl) ?_
  refine va_get (D := D) (ci := 3) (v := .ref (ad 23)) (C := RX3) (T := TX3) (N := 9) hx hb hts hiX3 hown hK hP 5 (wC_5 ad cA σ) rfl 2 (by decide) hw0 (fun _ h9 => h9) rfl dX3_setOpenBooking_1 ?_
  refine lv_iload_n hx hb dX3_setOpenBooking_4 rfl (lv_at hl 1 rfl) ?_
  refine lv_iload_n hx hb dX3_setOpenBooking_5 rfl (lv_at hl 2 rfl) ?_
  obtain ⟨hb_1, hF⟩ := chk_some hF
  obtain ⟨σ2, e2, hF⟩ := stp_some hF
  refine gw_iast hx hb hK hP hD hS (wC_23 ad cA σ) (tC_23 cA) (wCs_23 ad cA σ) hb_1 dX3_setOpenBooking_6 e2 (fun H locs hP hD hS => ?_)
  exact g_vretN hx hb hr hlocks hP hK hD hS dX3_setOpenBooking_7 hF
set_option maxHeartbeats 4000000 in
set_option maxRecDepth 100000 in
theorem tyc_L_isFull (l : Launch) (D : va_G) (ad : Nat → Nat) (cA : Nat → ClassId) (sz : Nat) (σ : tyS) (r : Int32) (hF : tyf_L_isFull σ  = some r) : gMi l yX1_isFull wsX1_isFull ({ frames := 0, cells := 0, slots := 0, locals := 0 } : Room) D (wC ad cA) (tC cA) [.ref (ad 4)] sz σ r σ := by
  refine Met.ofW (cc := cX1_isFull) (maxL := 1) (ret := (some .boolean)) (by decide) rfl ?_
  intro p e s m args below meth c s₁ B hml hv
  obtain ⟨rfl, hsz, hP, hK, hD0, hNN⟩ := hv
  have hx := B.exec
  have hb := B.bytes
  have hr := B.returns
  have hts := atoms_spec (ws := wsX1_isFull) B.pre
  have hown : s.vm.findClass RX1 = some m.cls := findClass_of_methodNamed B.named
  have hlocks := B.notSynchronized
  subst hsz
  have hD := hD0.self (sz := s.heap.size)
  generalize hAe : va_A (wC ad cA σ) s.heap.size = A at hD ⊢
  have hA : ∀ q : Nat, s.heap.size ≤ q → A q := fun q h => by rw [← hAe]; exact Or.inr h
  clear hAe hD0
  have hS : va_S A s.heap s.heap [] := va_S.rf
  have hl := lv_entry ([.ref (ad 4)]) (n := 1) (Nat.le_of_ble_eq_true rfl)
  rw [lg_entry_eq]
  generalize (lg_sl ([.ref (ad 4)]) ++ List.replicate (1 - (lg_sl ([.ref (ad 4)])).length) Slot.unset).toArray = ls at hl ⊢
  have hl : lv_has ls 1 [(0, .ref (ad 4))] := hl
  have hw0 := hts (.fieldLink RX1 42 "TrunkYards$Ledger" "count" "I") (List.mem_cons_of_mem _ (List.mem_of_getElem? (i := 0) rfl))
  have hiX1 : ∀ w ∈ wsX10, w ∈ wsX1_isFull := fun w h => List.mem_cons_of_mem _ (List.mem_append_right _ h)
  unfold tyf_L_isFull at hF
  refine lv_aload_n hx hb dX1_isFull_0 rfl (lv_at hl 0 rfl) ?_
  refine va_get (D := D) (ci := 1) (v := .int (σ.2 5)) (C := RX1) (T := TX1) (N := 9) hx hb hts hiX1 hown hK hP 4 (wC_4 ad cA σ) rfl 8 (by decide) hw0 (fun _ h9 => h9) rfl dX1_isFull_1 ?_
  refine lv_bipush (v := 40) hx hb dX1_isFull_4 (by decide) ?_
  refine lv_icmp_lt (tgt := 13) hx hb dX1_isFull_6 (by decide) (fun c_1 => ?_) (fun c_1 => ?_)
  · have hF := iteT hF c_1
    refine lv_iconst (v := 0) hx hb dX1_isFull_13 (by decide) ?_
    exact g_iretR hx hb hr rfl hlocks hP hK hD hS dX1_isFull_14 hF
  · have hF := iteF hF c_1
    refine lv_iconst (v := 1) hx hb dX1_isFull_9 (by decide) ?_
    refine lv_goto (tgt := 14) hx hb dX1_isFull_10 (by decide) ?_
    exact g_iretR hx hb hr rfl hlocks hP hK hD hS dX1_isFull_14 hF
set_option maxHeartbeats 4000000 in
set_option maxRecDepth 100000 in
theorem tyc_T_ask (l : Launch) (D : va_G) (ad : Nat → Nat) (cA : Nat → ClassId) (sz : Nat) (σ : tyS) (p1 : Int32) (p2 : Int32) (res : tyX) (hl9 : l.stackTraces = false) (hF : tyf_T_ask σ p1 p2 = some res) : gXi gStr l yX4_ask wsX4_ask ({ frames := 7, cells := 1, slots := 6, locals := 103 } : Room) D (wC ad cA) (tC cA) [.ref (ad 0), .int p1, .int p2] sz σ res := by
  refine ty_ofW (cc := cX4_ask) (maxL := 5) (ret := (some .int)) (by decide) rfl ?_
  intro p e s m args below meth c s₁ B hml ht9 hv
  obtain ⟨rfl, ⟨hsz, hP, hK, hD0, hNN⟩, hOK⟩ := hv
  have hx := B.exec
  have hb := B.bytes
  have hr := B.returns
  have hts := atoms_spec (ws := wsX4_ask) B.pre
  have hown : s.vm.findClass RX4 = some m.cls := findClass_of_methodNamed B.named
  have hlocks := B.notSynchronized
  subst hsz
  have hD := hD0.self (sz := s.heap.size)
  generalize hAe : va_A (wC ad cA σ) s.heap.size = A at hD hOK ⊢
  have hA : ∀ q : Nat, s.heap.size ≤ q → A q := fun q h => by rw [← hAe]; exact Or.inr h
  clear hAe hD0
  have hS : va_S A s.heap s.heap [] := va_S.rf
  have hl := lv_entry ([.ref (ad 0), .int p1, .int p2]) (n := 5) (Nat.le_of_ble_eq_true rfl)
  rw [lg_entry_eq]
  generalize (lg_sl ([.ref (ad 0), .int p1, .int p2]) ++ List.replicate (5 - (lg_sl ([.ref (ad 0), .int p1, .int p2])).length) Slot.unset).toArray = ls at hl ⊢
  have hl : lv_has ls 5 [(0, .ref (ad 0)), (1, .int p1), (2, .int p2)] := hl
  have hS9 : CallFix p m c cX4_ask 5 s _ wsX4_ask RX4 := ⟨hx, hb, hml, hown, hts⟩
  have hw0 := hts (.fieldLink RX4 36 "TrunkYards" "board" "LTrunkYards$Switchboard;") (List.mem_cons_of_mem _ (List.mem_of_getElem? (i := 4) rfl))
  have hiX4 : ∀ w ∈ wsX40, w ∈ wsX4_ask := fun w h => List.mem_cons_of_mem _ (List.mem_append_left _ (List.mem_append_left _ (List.mem_append_left _ (List.mem_append_left _ (List.mem_append_left _ (List.mem_append_left _ (List.mem_append_right _ h)))))))
  have hw2 := hts (.fieldLink RX4 29 "TrunkYards" "ledger" "LTrunkYards$Ledger;") (List.mem_cons_of_mem _ (List.mem_of_getElem? (i := 5) rfl))
  have hw3 := hts (.classLink RX4 73 "java/lang/IllegalStateException") (List.mem_cons_of_mem _ (List.mem_of_getElem? (i := 2) rfl))
  have hw4 := hts (.initialized "java/lang/IllegalStateException") (List.mem_cons_of_mem _ (List.mem_of_getElem? (i := 3) rfl))
  have hw5 := hts (.classLink RX4 86 "java/lang/IllegalArgumentException") (List.mem_cons_of_mem _ (List.mem_of_getElem? (i := 0) rfl))
  have hw6 := hts (.initialized "java/lang/IllegalArgumentException") (List.mem_cons_of_mem _ (List.mem_of_getElem? (i := 1) rfl))
  unfold tyf_T_ask at hF
  refine lv_aload_n hx hb dX4_ask_0 rfl (lv_at hl 0 rfl) ?_
  refine lv_iload_n hx hb dX4_ask_1 rfl (lv_at hl 1 rfl) ?_
  rcases bX_some hF with ⟨kr2, r2, σ1, er2, hF⟩ | ⟨r2, σ1, er2, hF⟩
  · exact gx_T (gx_runV (As := [.int p1]) (Qc := gQXv D (wC ad cA) (tC cA) _ _) hS9 (tyc_T_requireCall l D ad cA _ σ p1 _ hl9 er2) (cwV 1 hts gX4_ask_X4_requireCall rfl rfl rfl hd_X4_requireCall ⟨by decide, by decide⟩) hOK hK hP hD hS hA hNN (ci := 4) (q0 := 0) (N := 12) rfl (wC_0 ad cA σ) rfl hl.1 rfl (Nat.le_of_ble_eq_true rfl) dX4_ask_2 ⟨by decide, by decide⟩) (gx_nov rfl) rfl hF ht9 hlocks hK hD hS hA
  refine gx_Rv (rest2 := (.ref (ad 0) :: [.int p1])) (gx_runV (As := [.int p1]) (Qc := gQXv D (wC ad cA) (tC cA) _ _) hS9 (tyc_T_requireCall l D ad cA _ σ p1 _ hl9 er2) (cwV 1 hts gX4_ask_X4_requireCall rfl rfl rfl hd_X4_requireCall ⟨by decide, by decide⟩) hOK hK hP hD hS hA hNN (ci := 4) (q0 := 0) (N := 12) rfl (wC_0 ad cA σ) rfl hl.1 rfl (Nat.le_of_ble_eq_true rfl) dX4_ask_2 ⟨by decide, by decide⟩) rfl hK hD hS hA (fun H locs hP hD hS => ?_)
  refine lv_iload_n hx hb dX4_ask_5 rfl (lv_at hl 2 rfl) ?_
  obtain ⟨r3, er3, hF⟩ := bR_some hF
  refine gc_Si (As := [.int p2]) hS9 (tyc_T_isGrain l D ad cA _ σ1 p2 r3 er3) (va_cwS 1 hts gX4_ask_X4_isGrain rfl rfl rfl hd_X4_isGrain ⟨by decide, by decide⟩) hK hP hD hS hA hNN rfl hl.1 rfl (Nat.le_of_ble_eq_true rfl) dX4_ask_6 (fun H locs hP hD hS => ?_)
  refine lv_if_ne (tgt := 22) hx hb dX4_ask_9 (by decide) (fun c_4 => ?_) (fun c_4 => ?_)
  · have hF := iteF hF c_4
    refine lv_aload_n hx hb dX4_ask_22 rfl (lv_at hl 0 rfl) ?_
    refine lv_iload_n hx hb dX4_ask_23 rfl (lv_at hl 1 rfl) ?_
    rcases bX_some hF with ⟨kr6, r6, σ5, er6, hF⟩ | ⟨r6, σ5, er6, hF⟩
    · exact gx_T (gx_runV (As := [.int p1]) (Qc := gQXv D (wC ad cA) (tC cA) _ _) hS9 (tyc_T_requireOngoing l D ad cA _ σ1 p1 _ hl9 er6) (cwV 1 hts gX4_ask_X4_requireOngoing rfl rfl rfl hd_X4_requireOngoing ⟨by decide, by decide⟩) hOK hK hP hD hS hA hNN (ci := 4) (q0 := 0) (N := 12) rfl (wC_0 ad cA σ1) rfl hl.1 rfl (Nat.le_of_ble_eq_true rfl) dX4_ask_24 ⟨by decide, by decide⟩) (gx_nov rfl) rfl hF ht9 hlocks hK hD hS hA
    refine gx_Rv (rest2 := (.ref (ad 0) :: [.int p1])) (gx_runV (As := [.int p1]) (Qc := gQXv D (wC ad cA) (tC cA) _ _) hS9 (tyc_T_requireOngoing l D ad cA _ σ1 p1 _ hl9 er6) (cwV 1 hts gX4_ask_X4_requireOngoing rfl rfl rfl hd_X4_requireOngoing ⟨by decide, by decide⟩) hOK hK hP hD hS hA hNN (ci := 4) (q0 := 0) (N := 12) rfl (wC_0 ad cA σ1) rfl hl.1 rfl (Nat.le_of_ble_eq_true rfl) dX4_ask_24 ⟨by decide, by decide⟩) rfl hK hD hS hA (fun H locs hP hD hS => ?_)
    refine lv_aload_n hx hb dX4_ask_27 rfl (lv_at hl 0 rfl) ?_
    refine va_get (D := D) (ci := 4) (v := .ref (ad 5)) (C := RX4) (T := TX4) (N := 12) hx hb hts hiX4 hown hK hP 0 (wC_0 ad cA σ5) rfl 4 (by decide) hw0 (fun _ h9 => h9) rfl dX4_ask_28 ?_
    refine lv_iload_n hx hb dX4_ask_31 rfl (lv_at hl 1 rfl) ?_
    obtain ⟨r7, er7, hF⟩ := bR_some hF
    refine gc_Vi (As := [.int p1]) hS9 (tyc_B_openBooking l D ad cA _ σ5 p1 r7 er7) (cwV 1 hts gX4_ask_X3_openBooking rfl rfl rfl hd_X3_openBooking ⟨by decide, by decide⟩) hK hP hD hS hA hNN (ci := 3) (q0 := 5) (N := 9) rfl (wC_5 ad cA σ5) rfl hl.1 rfl (Nat.le_of_ble_eq_true rfl) dX4_ask_32 (fun H locs hP hD hS => ?_)
    refine lv_istore_n (lv' := [(3, .int r7), (0, .ref (ad 0)), (1, .int p1), (2, .int p2)]) hx hb dX4_ask_35 rfl hl (by decide) rfl (fun ls hl => ?_)
    refine lv_iload_n hx hb dX4_ask_36 rfl (lv_at hl 0 rfl) ?_
    refine lv_iconst (v := (-1)) hx hb dX4_ask_37 (by decide) ?_
    refine lv_icmp_ne (tgt := 54) hx hb dX4_ask_38 (by decide) (fun c_8 => ?_) (fun c_8 => ?_)
    · have hF := iteF hF c_8
      refine lv_aload_n hx hb dX4_ask_54 rfl (lv_at hl 1 rfl) ?_
      refine va_get (D := D) (ci := 4) (v := .ref (ad 4)) (C := RX4) (T := TX4) (N := 12) hx hb hts hiX4 hown hK hP 0 (wC_0 ad cA σ5) rfl 3 (by decide) hw2 (fun _ h9 => h9) rfl dX4_ask_55 ?_
      refine lv_iload_n hx hb dX4_ask_58 rfl (lv_at hl 0 rfl) ?_
      obtain ⟨r9, er9, hF⟩ := bR_some hF
      refine gc_Vi (As := [.int r7]) hS9 (tyc_L_grain l D ad cA _ σ5 r7 r9 er9) (cwV 1 hts gX4_ask_X1_grain rfl rfl rfl hd_X1_grain ⟨by decide, by decide⟩) hK hP hD hS hA hNN (ci := 1) (q0 := 4) (N := 9) rfl (wC_4 ad cA σ5) rfl hl.1 rfl (Nat.le_of_ble_eq_true rfl) dX4_ask_59 (fun H locs hP hD hS => ?_)
      refine lv_iload_n hx hb dX4_ask_62 rfl (lv_at hl 3 rfl) ?_
      refine lv_icmp_eq (tgt := 76) hx hb dX4_ask_63 (by decide) (fun c_10 => ?_) (fun c_10 => ?_)
      · have hF := iteT hF c_10
        refine lv_aload_n hx hb dX4_ask_76 rfl (lv_at hl 1 rfl) ?_
        refine lv_aload_n hx hb dX4_ask_77 rfl (lv_at hl 1 rfl) ?_
        refine va_get (D := D) (ci := 4) (v := .ref (ad 5)) (C := RX4) (T := TX4) (N := 12) hx hb hts hiX4 hown hK hP 0 (wC_0 ad cA σ5) rfl 4 (by decide) hw0 (fun _ h9 => h9) rfl dX4_ask_78 ?_
        refine lv_iload_n hx hb dX4_ask_81 rfl (lv_at hl 2 rfl) ?_
        obtain ⟨r11, er11, hF⟩ := bR_some hF
        refine gc_Vi (As := [.int p1]) hS9 (tyc_B_yard l D ad cA _ σ5 p1 r11 er11) (cwV 1 hts gX4_ask_X3_yard rfl rfl rfl hd_X3_yard ⟨by decide, by decide⟩) hK hP hD hS hA hNN (ci := 3) (q0 := 5) (N := 9) rfl (wC_5 ad cA σ5) rfl hl.1 rfl (Nat.le_of_ble_eq_true rfl) dX4_ask_82 (fun H locs hP hD hS => ?_)
        refine lv_iload_n hx hb dX4_ask_85 rfl (lv_at hl 3 rfl) ?_
        obtain ⟨r12, er12, hF⟩ := bR_some hF
        refine gc_Vi (As := [.int r11, .int p2]) hS9 (tyc_T_findWagon l D ad cA _ σ5 r11 p2 r12 er12) (cwV 2 hts gX4_ask_X4_findWagon rfl rfl rfl hd_X4_findWagon ⟨by decide, by decide⟩) hK hP hD hS hA hNN (ci := 4) (q0 := 0) (N := 12) rfl (wC_0 ad cA σ5) rfl hl.1 rfl (Nat.le_of_ble_eq_true rfl) dX4_ask_86 (fun H locs hP hD hS => ?_)
        refine lv_istore (lv' := [(4, .int r12), (3, .int r7), (0, .ref (ad 0)), (1, .int p1), (2, .int p2)]) hx hb dX4_ask_89 hl (by decide) rfl (fun ls hl => ?_)
        refine lv_iload hx hb dX4_ask_91 (lv_at hl 0 rfl) ?_
        refine lv_iconst (v := (-1)) hx hb dX4_ask_93 (by decide) ?_
        refine lv_icmp_ne (tgt := 99) hx hb dX4_ask_94 (by decide) (fun c_13 => ?_) (fun c_13 => ?_)
        · have hF := iteF hF c_13
          refine lv_iload_n hx hb dX4_ask_99 rfl (lv_at hl 1 rfl) ?_
          refine lv_iconst (v := (-1)) hx hb dX4_ask_100 (by decide) ?_
          refine lv_icmp_ne (tgt := 138) hx hb dX4_ask_101 (by decide) (fun c_14 => ?_) (fun c_14 => ?_)
          · have hF := iteF hF c_14
            refine lv_aload_n hx hb dX4_ask_138 rfl (lv_at hl 2 rfl) ?_
            refine va_get (D := D) (ci := 4) (v := .ref (ad 4)) (C := RX4) (T := TX4) (N := 12) hx hb hts hiX4 hown hK hP 0 (wC_0 ad cA σ5) rfl 3 (by decide) hw2 (fun _ h9 => h9) rfl dX4_ask_139 ?_
            refine lv_iload_n hx hb dX4_ask_142 rfl (lv_at hl 1 rfl) ?_
            refine lv_iload hx hb dX4_ask_143 (lv_at hl 0 rfl) ?_
            obtain ⟨σ15, e15, hF⟩ := bR_some hF
            refine gc_Vv (As := [.int r7, .int r12]) hS9 (tyc_L_add l D ad cA _ σ5 r7 r12 σ15 e15) (cwV 2 hts gX4_ask_X1_add rfl rfl rfl hd_X1_add ⟨by decide, by decide⟩) hK hP hD hS hA hNN (ci := 1) (q0 := 4) (N := 9) rfl (wC_4 ad cA σ5) rfl hl.1 rfl (Nat.le_of_ble_eq_true rfl) dX4_ask_145 (fun H locs hP hD hS => ?_)
            refine lv_iload hx hb dX4_ask_148 (lv_at hl 0 rfl) ?_
            exact g_iretX hx hb hr rfl hlocks hP hK hD hS dX4_ask_150 hF
          · have hF := iteT hF c_14
            refine lv_aload_n hx hb dX4_ask_104 rfl (lv_at hl 2 rfl) ?_
            refine va_get (D := D) (ci := 4) (v := .ref (ad 4)) (C := RX4) (T := TX4) (N := 12) hx hb hts hiX4 hown hK hP 0 (wC_0 ad cA σ5) rfl 3 (by decide) hw2 (fun _ h9 => h9) rfl dX4_ask_105 ?_
            refine lv_aload_n hx hb dX4_ask_108 rfl (lv_at hl 2 rfl) ?_
            refine va_get (D := D) (ci := 4) (v := .ref (ad 5)) (C := RX4) (T := TX4) (N := 12) hx hb hts hiX4 hown hK hP 0 (wC_0 ad cA σ5) rfl 4 (by decide) hw0 (fun _ h9 => h9) rfl dX4_ask_109 ?_
            refine lv_iload_n hx hb dX4_ask_112 rfl (lv_at hl 3 rfl) ?_
            obtain ⟨r16, er16, hF⟩ := bR_some hF
            refine gc_Vi (As := [.int p1]) hS9 (tyc_B_customer l D ad cA _ σ5 p1 r16 er16) (cwV 1 hts gX4_ask_X3_customer rfl rfl rfl hd_X3_customer ⟨by decide, by decide⟩) hK hP hD hS hA hNN (ci := 3) (q0 := 5) (N := 9) rfl (wC_5 ad cA σ5) rfl hl.1 rfl (Nat.le_of_ble_eq_true rfl) dX4_ask_113 (fun H locs hP hD hS => ?_)
            refine lv_aload_n hx hb dX4_ask_116 rfl (lv_at hl 2 rfl) ?_
            refine va_get (D := D) (ci := 4) (v := .ref (ad 5)) (C := RX4) (T := TX4) (N := 12) hx hb hts hiX4 hown hK hP 0 (wC_0 ad cA σ5) rfl 4 (by decide) hw0 (fun _ h9 => h9) rfl dX4_ask_117 ?_
            refine lv_iload_n hx hb dX4_ask_120 rfl (lv_at hl 3 rfl) ?_
            obtain ⟨r17, er17, hF⟩ := bR_some hF
            refine gc_Vi (As := [.int p1]) hS9 (tyc_B_yard l D ad cA _ σ5 p1 r17 er17) (cwV 1 hts gX4_ask_X3_yard rfl rfl rfl hd_X3_yard ⟨by decide, by decide⟩) hK hP hD hS hA hNN (ci := 3) (q0 := 5) (N := 9) rfl (wC_5 ad cA σ5) rfl hl.1 rfl (Nat.le_of_ble_eq_true rfl) dX4_ask_121 (fun H locs hP hD hS => ?_)
            refine lv_iload_n hx hb dX4_ask_124 rfl (lv_at hl 4 rfl) ?_
            obtain ⟨r19, σ18, er19, hF⟩ := bN_some hF
            refine gc_Vi (As := [.int r16, .int r17, .int p2]) hS9 (tyc_L_open l D ad cA _ σ5 r16 r17 p2 r19 σ18 er19) (cwV 3 hts gX4_ask_X1_open rfl rfl rfl hd_X1_open ⟨by decide, by decide⟩) hK hP hD hS hA hNN (ci := 1) (q0 := 4) (N := 9) rfl (wC_4 ad cA σ5) rfl hl.1 rfl (Nat.le_of_ble_eq_true rfl) dX4_ask_125 (fun H locs hP hD hS => ?_)
            refine lv_istore_n (lv' := [(3, .int r19), (4, .int r12), (0, .ref (ad 0)), (1, .int p1), (2, .int p2)]) hx hb dX4_ask_128 rfl hl (by decide) rfl (fun ls hl => ?_)
            refine lv_aload_n hx hb dX4_ask_129 rfl (lv_at hl 2 rfl) ?_
            refine va_get (D := D) (ci := 4) (v := .ref (ad 5)) (C := RX4) (T := TX4) (N := 12) hx hb hts hiX4 hown hK hP 0 (wC_0 ad cA σ18) rfl 4 (by decide) hw0 (fun _ h9 => h9) rfl dX4_ask_130 ?_
            refine lv_iload_n hx hb dX4_ask_133 rfl (lv_at hl 3 rfl) ?_
            refine lv_iload_n hx hb dX4_ask_134 rfl (lv_at hl 0 rfl) ?_
            obtain ⟨σ20, e20, hF⟩ := bR_some hF
            refine gc_Vv (As := [.int p1, .int r19]) hS9 (tyc_B_setOpenBooking l D ad cA _ σ18 p1 r19 σ20 e20) (cwV 2 hts gX4_ask_X3_setOpenBooking rfl rfl rfl hd_X3_setOpenBooking ⟨by decide, by decide⟩) hK hP hD hS hA hNN (ci := 3) (q0 := 5) (N := 9) rfl (wC_5 ad cA σ18) rfl hl.1 rfl (Nat.le_of_ble_eq_true rfl) dX4_ask_135 (fun H locs hP hD hS => ?_)
            refine lv_aload_n hx hb dX4_ask_138 rfl (lv_at hl 2 rfl) ?_
            refine va_get (D := D) (ci := 4) (v := .ref (ad 4)) (C := RX4) (T := TX4) (N := 12) hx hb hts hiX4 hown hK hP 0 (wC_0 ad cA σ20) rfl 3 (by decide) hw2 (fun _ h9 => h9) rfl dX4_ask_139 ?_
            refine lv_iload_n hx hb dX4_ask_142 rfl (lv_at hl 0 rfl) ?_
            refine lv_iload hx hb dX4_ask_143 (lv_at hl 1 rfl) ?_
            obtain ⟨σ21, e21, hF⟩ := bR_some hF
            refine gc_Vv (As := [.int r19, .int r12]) hS9 (tyc_L_add l D ad cA _ σ20 r19 r12 σ21 e21) (cwV 2 hts gX4_ask_X1_add rfl rfl rfl hd_X1_add ⟨by decide, by decide⟩) hK hP hD hS hA hNN (ci := 1) (q0 := 4) (N := 9) rfl (wC_4 ad cA σ20) rfl hl.1 rfl (Nat.le_of_ble_eq_true rfl) dX4_ask_145 (fun H locs hP hD hS => ?_)
            refine lv_iload hx hb dX4_ask_148 (lv_at hl 1 rfl) ?_
            exact g_iretX hx hb hr rfl hlocks hP hK hD hS dX4_ask_150 hF
        · have hF := iteT hF c_13
          refine lv_iconst (v := (-1)) hx hb dX4_ask_97 (by decide) ?_
          exact g_iretX hx hb hr rfl hlocks hP hK hD hS dX4_ask_98 hF
      · have hF := iteF hF c_10
        exact gx_throwS (own := RX4) (cls := "java/lang/IllegalStateException") (text := "another grain, or too many bookings") (k := 1) hx hb hl9 hown rfl (by decide +kernel) hw3 hw4 (fun w h => hts w (List.mem_cons_of_mem _ (List.mem_append_left _ (List.mem_append_right _ h)))) gnoX4_77 ggdX4_73_77 hOK (List.mem_of_getElem? (i := 7) rfl) (by rw [hml]; exact hl.1) ht9 hlocks hP hK hD hS dX4_ask_66 dX4_ask_69 dX4_ask_70 dX4_ask_72 dX4_ask_75 ⟨by decide, by decide, by decide, by decide⟩ hF
    · have hF := iteT hF c_8
      refine lv_aload_n hx hb dX4_ask_41 rfl (lv_at hl 1 rfl) ?_
      refine va_get (D := D) (ci := 4) (v := .ref (ad 4)) (C := RX4) (T := TX4) (N := 12) hx hb hts hiX4 hown hK hP 0 (wC_0 ad cA σ5) rfl 3 (by decide) hw2 (fun _ h9 => h9) rfl dX4_ask_42 ?_
      obtain ⟨r22, er22, hF⟩ := bR_some hF
      refine gc_Vi (As := []) hS9 (tyc_L_isFull l D ad cA _ σ5  r22 er22) (cwV 0 hts gX4_ask_X1_isFull rfl rfl rfl hd_X1_isFull ⟨by decide, by decide⟩) hK hP hD hS hA hNN (ci := 1) (q0 := 4) (N := 9) rfl (wC_4 ad cA σ5) rfl hl.1 rfl (Nat.le_of_ble_eq_true rfl) dX4_ask_45 (fun H locs hP hD hS => ?_)
      refine lv_if_eq (tgt := 76) hx hb dX4_ask_48 (by decide) (fun c_23 => ?_) (fun c_23 => ?_)
      · have hF := iteT hF c_23
        refine lv_aload_n hx hb dX4_ask_76 rfl (lv_at hl 1 rfl) ?_
        refine lv_aload_n hx hb dX4_ask_77 rfl (lv_at hl 1 rfl) ?_
        refine va_get (D := D) (ci := 4) (v := .ref (ad 5)) (C := RX4) (T := TX4) (N := 12) hx hb hts hiX4 hown hK hP 0 (wC_0 ad cA σ5) rfl 4 (by decide) hw0 (fun _ h9 => h9) rfl dX4_ask_78 ?_
        refine lv_iload_n hx hb dX4_ask_81 rfl (lv_at hl 2 rfl) ?_
        obtain ⟨r24, er24, hF⟩ := bR_some hF
        refine gc_Vi (As := [.int p1]) hS9 (tyc_B_yard l D ad cA _ σ5 p1 r24 er24) (cwV 1 hts gX4_ask_X3_yard rfl rfl rfl hd_X3_yard ⟨by decide, by decide⟩) hK hP hD hS hA hNN (ci := 3) (q0 := 5) (N := 9) rfl (wC_5 ad cA σ5) rfl hl.1 rfl (Nat.le_of_ble_eq_true rfl) dX4_ask_82 (fun H locs hP hD hS => ?_)
        refine lv_iload_n hx hb dX4_ask_85 rfl (lv_at hl 3 rfl) ?_
        obtain ⟨r25, er25, hF⟩ := bR_some hF
        refine gc_Vi (As := [.int r24, .int p2]) hS9 (tyc_T_findWagon l D ad cA _ σ5 r24 p2 r25 er25) (cwV 2 hts gX4_ask_X4_findWagon rfl rfl rfl hd_X4_findWagon ⟨by decide, by decide⟩) hK hP hD hS hA hNN (ci := 4) (q0 := 0) (N := 12) rfl (wC_0 ad cA σ5) rfl hl.1 rfl (Nat.le_of_ble_eq_true rfl) dX4_ask_86 (fun H locs hP hD hS => ?_)
        refine lv_istore (lv' := [(4, .int r25), (3, .int r7), (0, .ref (ad 0)), (1, .int p1), (2, .int p2)]) hx hb dX4_ask_89 hl (by decide) rfl (fun ls hl => ?_)
        refine lv_iload hx hb dX4_ask_91 (lv_at hl 0 rfl) ?_
        refine lv_iconst (v := (-1)) hx hb dX4_ask_93 (by decide) ?_
        refine lv_icmp_ne (tgt := 99) hx hb dX4_ask_94 (by decide) (fun c_26 => ?_) (fun c_26 => ?_)
        · have hF := iteF hF c_26
          refine lv_iload_n hx hb dX4_ask_99 rfl (lv_at hl 1 rfl) ?_
          refine lv_iconst (v := (-1)) hx hb dX4_ask_100 (by decide) ?_
          refine lv_icmp_ne (tgt := 138) hx hb dX4_ask_101 (by decide) (fun c_27 => ?_) (fun c_27 => ?_)
          · have hF := iteF hF c_27
            refine lv_aload_n hx hb dX4_ask_138 rfl (lv_at hl 2 rfl) ?_
            refine va_get (D := D) (ci := 4) (v := .ref (ad 4)) (C := RX4) (T := TX4) (N := 12) hx hb hts hiX4 hown hK hP 0 (wC_0 ad cA σ5) rfl 3 (by decide) hw2 (fun _ h9 => h9) rfl dX4_ask_139 ?_
            refine lv_iload_n hx hb dX4_ask_142 rfl (lv_at hl 1 rfl) ?_
            refine lv_iload hx hb dX4_ask_143 (lv_at hl 0 rfl) ?_
            obtain ⟨σ28, e28, hF⟩ := bR_some hF
            refine gc_Vv (As := [.int r7, .int r25]) hS9 (tyc_L_add l D ad cA _ σ5 r7 r25 σ28 e28) (cwV 2 hts gX4_ask_X1_add rfl rfl rfl hd_X1_add ⟨by decide, by decide⟩) hK hP hD hS hA hNN (ci := 1) (q0 := 4) (N := 9) rfl (wC_4 ad cA σ5) rfl hl.1 rfl (Nat.le_of_ble_eq_true rfl) dX4_ask_145 (fun H locs hP hD hS => ?_)
            refine lv_iload hx hb dX4_ask_148 (lv_at hl 0 rfl) ?_
            exact g_iretX hx hb hr rfl hlocks hP hK hD hS dX4_ask_150 hF
          · have hF := iteT hF c_27
            refine lv_aload_n hx hb dX4_ask_104 rfl (lv_at hl 2 rfl) ?_
            refine va_get (D := D) (ci := 4) (v := .ref (ad 4)) (C := RX4) (T := TX4) (N := 12) hx hb hts hiX4 hown hK hP 0 (wC_0 ad cA σ5) rfl 3 (by decide) hw2 (fun _ h9 => h9) rfl dX4_ask_105 ?_
            refine lv_aload_n hx hb dX4_ask_108 rfl (lv_at hl 2 rfl) ?_
            refine va_get (D := D) (ci := 4) (v := .ref (ad 5)) (C := RX4) (T := TX4) (N := 12) hx hb hts hiX4 hown hK hP 0 (wC_0 ad cA σ5) rfl 4 (by decide) hw0 (fun _ h9 => h9) rfl dX4_ask_109 ?_
            refine lv_iload_n hx hb dX4_ask_112 rfl (lv_at hl 3 rfl) ?_
            obtain ⟨r29, er29, hF⟩ := bR_some hF
            refine gc_Vi (As := [.int p1]) hS9 (tyc_B_customer l D ad cA _ σ5 p1 r29 er29) (cwV 1 hts gX4_ask_X3_customer rfl rfl rfl hd_X3_customer ⟨by decide, by decide⟩) hK hP hD hS hA hNN (ci := 3) (q0 := 5) (N := 9) rfl (wC_5 ad cA σ5) rfl hl.1 rfl (Nat.le_of_ble_eq_true rfl) dX4_ask_113 (fun H locs hP hD hS => ?_)
            refine lv_aload_n hx hb dX4_ask_116 rfl (lv_at hl 2 rfl) ?_
            refine va_get (D := D) (ci := 4) (v := .ref (ad 5)) (C := RX4) (T := TX4) (N := 12) hx hb hts hiX4 hown hK hP 0 (wC_0 ad cA σ5) rfl 4 (by decide) hw0 (fun _ h9 => h9) rfl dX4_ask_117 ?_
            refine lv_iload_n hx hb dX4_ask_120 rfl (lv_at hl 3 rfl) ?_
            obtain ⟨r30, er30, hF⟩ := bR_some hF
            refine gc_Vi (As := [.int p1]) hS9 (tyc_B_yard l D ad cA _ σ5 p1 r30 er30) (cwV 1 hts gX4_ask_X3_yard rfl rfl rfl hd_X3_yard ⟨by decide, by decide⟩) hK hP hD hS hA hNN (ci := 3) (q0 := 5) (N := 9) rfl (wC_5 ad cA σ5) rfl hl.1 rfl (Nat.le_of_ble_eq_true rfl) dX4_ask_121 (fun H locs hP hD hS => ?_)
            refine lv_iload_n hx hb dX4_ask_124 rfl (lv_at hl 4 rfl) ?_
            obtain ⟨r32, σ31, er32, hF⟩ := bN_some hF
            refine gc_Vi (As := [.int r29, .int r30, .int p2]) hS9 (tyc_L_open l D ad cA _ σ5 r29 r30 p2 r32 σ31 er32) (cwV 3 hts gX4_ask_X1_open rfl rfl rfl hd_X1_open ⟨by decide, by decide⟩) hK hP hD hS hA hNN (ci := 1) (q0 := 4) (N := 9) rfl (wC_4 ad cA σ5) rfl hl.1 rfl (Nat.le_of_ble_eq_true rfl) dX4_ask_125 (fun H locs hP hD hS => ?_)
            refine lv_istore_n (lv' := [(3, .int r32), (4, .int r25), (0, .ref (ad 0)), (1, .int p1), (2, .int p2)]) hx hb dX4_ask_128 rfl hl (by decide) rfl (fun ls hl => ?_)
            refine lv_aload_n hx hb dX4_ask_129 rfl (lv_at hl 2 rfl) ?_
            refine va_get (D := D) (ci := 4) (v := .ref (ad 5)) (C := RX4) (T := TX4) (N := 12) hx hb hts hiX4 hown hK hP 0 (wC_0 ad cA σ31) rfl 4 (by decide) hw0 (fun _ h9 => h9) rfl dX4_ask_130 ?_
            refine lv_iload_n hx hb dX4_ask_133 rfl (lv_at hl 3 rfl) ?_
            refine lv_iload_n hx hb dX4_ask_134 rfl (lv_at hl 0 rfl) ?_
            obtain ⟨σ33, e33, hF⟩ := bR_some hF
            refine gc_Vv (As := [.int p1, .int r32]) hS9 (tyc_B_setOpenBooking l D ad cA _ σ31 p1 r32 σ33 e33) (cwV 2 hts gX4_ask_X3_setOpenBooking rfl rfl rfl hd_X3_setOpenBooking ⟨by decide, by decide⟩) hK hP hD hS hA hNN (ci := 3) (q0 := 5) (N := 9) rfl (wC_5 ad cA σ31) rfl hl.1 rfl (Nat.le_of_ble_eq_true rfl) dX4_ask_135 (fun H locs hP hD hS => ?_)
            refine lv_aload_n hx hb dX4_ask_138 rfl (lv_at hl 2 rfl) ?_
            refine va_get (D := D) (ci := 4) (v := .ref (ad 4)) (C := RX4) (T := TX4) (N := 12) hx hb hts hiX4 hown hK hP 0 (wC_0 ad cA σ33) rfl 3 (by decide) hw2 (fun _ h9 => h9) rfl dX4_ask_139 ?_
            refine lv_iload_n hx hb dX4_ask_142 rfl (lv_at hl 0 rfl) ?_
            refine lv_iload hx hb dX4_ask_143 (lv_at hl 1 rfl) ?_
            obtain ⟨σ34, e34, hF⟩ := bR_some hF
            refine gc_Vv (As := [.int r32, .int r25]) hS9 (tyc_L_add l D ad cA _ σ33 r32 r25 σ34 e34) (cwV 2 hts gX4_ask_X1_add rfl rfl rfl hd_X1_add ⟨by decide, by decide⟩) hK hP hD hS hA hNN (ci := 1) (q0 := 4) (N := 9) rfl (wC_4 ad cA σ33) rfl hl.1 rfl (Nat.le_of_ble_eq_true rfl) dX4_ask_145 (fun H locs hP hD hS => ?_)
            refine lv_iload hx hb dX4_ask_148 (lv_at hl 1 rfl) ?_
            exact g_iretX hx hb hr rfl hlocks hP hK hD hS dX4_ask_150 hF
        · have hF := iteT hF c_26
          refine lv_iconst (v := (-1)) hx hb dX4_ask_97 (by decide) ?_
          exact g_iretX hx hb hr rfl hlocks hP hK hD hS dX4_ask_98 hF
      · have hF := iteF hF c_23
        refine lv_goto (tgt := 66) hx hb dX4_ask_51 (by decide) ?_
        exact gx_throwS (own := RX4) (cls := "java/lang/IllegalStateException") (text := "another grain, or too many bookings") (k := 1) hx hb hl9 hown rfl (by decide +kernel) hw3 hw4 (fun w h => hts w (List.mem_cons_of_mem _ (List.mem_append_left _ (List.mem_append_right _ h)))) gnoX4_77 ggdX4_73_77 hOK (List.mem_of_getElem? (i := 7) rfl) (by rw [hml]; exact hl.1) ht9 hlocks hP hK hD hS dX4_ask_66 dX4_ask_69 dX4_ask_70 dX4_ask_72 dX4_ask_75 ⟨by decide, by decide, by decide, by decide⟩ hF
  · have hF := iteT hF c_4
    exact gx_throwS (own := RX4) (cls := "java/lang/IllegalArgumentException") (text := "grain is out of range") (k := 0) hx hb hl9 hown rfl (by decide +kernel) hw5 hw6 (fun w h => hts w (List.mem_cons_of_mem _ (List.mem_append_left _ (List.mem_append_left _ (List.mem_append_right _ h))))) gnoX4_90 ggdX4_86_90 hOK (List.mem_of_getElem? (i := 6) rfl) (by rw [hml]; exact hl.1) ht9 hlocks hP hK hD hS dX4_ask_12 dX4_ask_15 dX4_ask_16 dX4_ask_18 dX4_ask_21 ⟨by decide, by decide, by decide, by decide⟩ hF
set_option maxHeartbeats 4000000 in
set_option maxRecDepth 100000 in
theorem tyc_L_keep (l : Launch) (D : va_G) (ad : Nat → Nat) (cA : Nat → ClassId) (sz : Nat) (σ : tyS) (p1 : Int32) (p2 : Int32) (τ : tyS) (hF : tyf_L_keep σ p1 p2 = some τ) : gMv l yX1_keep wsX1_keep ({ frames := 0, cells := 0, slots := 0, locals := 0 } : Room) D (wC ad cA) (tC cA) [.ref (ad 4), .int p1, .int p2] sz σ τ := by
  refine Met.ofW (cc := cX1_keep) (maxL := 3) (ret := none) (by decide) rfl ?_
  intro p e s m args below meth c s₁ B hml hv
  obtain ⟨rfl, hsz, hP, hK, hD0, hNN⟩ := hv
  have hx := B.exec
  have hb := B.bytes
  have hr := B.returns
  have hts := atoms_spec (ws := wsX1_keep) B.pre
  have hown : s.vm.findClass RX1 = some m.cls := findClass_of_methodNamed B.named
  have hlocks := B.notSynchronized
  subst hsz
  have hD := hD0.self (sz := s.heap.size)
  generalize hAe : va_A (wC ad cA σ) s.heap.size = A at hD ⊢
  have hA : ∀ q : Nat, s.heap.size ≤ q → A q := fun q h => by rw [← hAe]; exact Or.inr h
  clear hAe hD0
  have hS : va_S A s.heap s.heap [] := va_S.rf
  have hl := lv_entry ([.ref (ad 4), .int p1, .int p2]) (n := 3) (Nat.le_of_ble_eq_true rfl)
  rw [lg_entry_eq]
  generalize (lg_sl ([.ref (ad 4), .int p1, .int p2]) ++ List.replicate (3 - (lg_sl ([.ref (ad 4), .int p1, .int p2])).length) Slot.unset).toArray = ls at hl ⊢
  have hl : lv_has ls 3 [(0, .ref (ad 4)), (1, .int p1), (2, .int p2)] := hl
  have hw0 := hts (.fieldLink RX1 21 "TrunkYards$Ledger" "standings" "[I") (List.mem_cons_of_mem _ (List.mem_of_getElem? (i := 0) rfl))
  have hiX1 : ∀ w ∈ wsX10, w ∈ wsX1_keep := fun w h => List.mem_cons_of_mem _ (List.mem_append_right _ h)
  unfold tyf_L_keep at hF
  refine lv_aload_n hx hb dX1_keep_0 rfl (lv_at hl 0 rfl) ?_
  refine va_get (D := D) (ci := 1) (v := .ref (ad 16)) (C := RX1) (T := TX1) (N := 9) hx hb hts hiX1 hown hK hP 4 (wC_4 ad cA σ) rfl 3 (by decide) hw0 (fun _ h9 => h9) rfl dX1_keep_1 ?_
  refine lv_iload_n hx hb dX1_keep_4 rfl (lv_at hl 1 rfl) ?_
  refine lv_iload_n hx hb dX1_keep_5 rfl (lv_at hl 2 rfl) ?_
  obtain ⟨hb_1, hF⟩ := chk_some hF
  obtain ⟨σ2, e2, hF⟩ := stp_some hF
  refine gw_iast hx hb hK hP hD hS (wC_16 ad cA σ) (tC_16 cA) (wCs_16 ad cA σ) hb_1 dX1_keep_6 e2 (fun H locs hP hD hS => ?_)
  exact g_vretN hx hb hr hlocks hP hK hD hS dX1_keep_7 hF
set_option maxHeartbeats 4000000 in
set_option maxRecDepth 100000 in
theorem tyc_T_confirm (l : Launch) (D : va_G) (ad : Nat → Nat) (cA : Nat → ClassId) (sz : Nat) (σ : tyS) (p1 : Int32) (res : tyX) (hl9 : l.stackTraces = false) (hF : tyf_T_confirm σ p1 = some res) : gXi gStr l yX4_confirm wsX4_confirm ({ frames := 7, cells := 1, slots := 6, locals := 103 } : Room) D (wC ad cA) (tC cA) [.ref (ad 0), .int p1] sz σ res := by
  refine ty_ofW (cc := cX4_confirm) (maxL := 3) (ret := (some .int)) (by decide) rfl ?_
  intro p e s m args below meth c s₁ B hml ht9 hv
  obtain ⟨rfl, ⟨hsz, hP, hK, hD0, hNN⟩, hOK⟩ := hv
  have hx := B.exec
  have hb := B.bytes
  have hr := B.returns
  have hts := atoms_spec (ws := wsX4_confirm) B.pre
  have hown : s.vm.findClass RX4 = some m.cls := findClass_of_methodNamed B.named
  have hlocks := B.notSynchronized
  subst hsz
  have hD := hD0.self (sz := s.heap.size)
  generalize hAe : va_A (wC ad cA σ) s.heap.size = A at hD hOK ⊢
  have hA : ∀ q : Nat, s.heap.size ≤ q → A q := fun q h => by rw [← hAe]; exact Or.inr h
  clear hAe hD0
  have hS : va_S A s.heap s.heap [] := va_S.rf
  have hl := lv_entry ([.ref (ad 0), .int p1]) (n := 3) (Nat.le_of_ble_eq_true rfl)
  rw [lg_entry_eq]
  generalize (lg_sl ([.ref (ad 0), .int p1]) ++ List.replicate (3 - (lg_sl ([.ref (ad 0), .int p1])).length) Slot.unset).toArray = ls at hl ⊢
  have hl : lv_has ls 3 [(0, .ref (ad 0)), (1, .int p1)] := hl
  have hS9 : CallFix p m c cX4_confirm 3 s _ wsX4_confirm RX4 := ⟨hx, hb, hml, hown, hts⟩
  have hw0 := hts (.fieldLink RX4 36 "TrunkYards" "board" "LTrunkYards$Switchboard;") (List.mem_cons_of_mem _ (List.mem_of_getElem? (i := 2) rfl))
  have hiX4 : ∀ w ∈ wsX40, w ∈ wsX4_confirm := fun w h => List.mem_cons_of_mem _ (List.mem_append_left _ (List.mem_append_left _ (List.mem_append_left _ (List.mem_append_left _ (List.mem_append_right _ h)))))
  have hw2 := hts (.fieldLink RX4 29 "TrunkYards" "ledger" "LTrunkYards$Ledger;") (List.mem_cons_of_mem _ (List.mem_of_getElem? (i := 3) rfl))
  have hw3 := hts (.classLink RX4 73 "java/lang/IllegalStateException") (List.mem_cons_of_mem _ (List.mem_of_getElem? (i := 0) rfl))
  have hw4 := hts (.initialized "java/lang/IllegalStateException") (List.mem_cons_of_mem _ (List.mem_of_getElem? (i := 1) rfl))
  unfold tyf_T_confirm at hF
  refine lv_aload_n hx hb dX4_confirm_0 rfl (lv_at hl 0 rfl) ?_
  refine lv_iload_n hx hb dX4_confirm_1 rfl (lv_at hl 1 rfl) ?_
  rcases bX_some hF with ⟨kr2, r2, σ1, er2, hF⟩ | ⟨r2, σ1, er2, hF⟩
  · exact gx_T (gx_runV (As := [.int p1]) (Qc := gQXv D (wC ad cA) (tC cA) _ _) hS9 (tyc_T_requireCall l D ad cA _ σ p1 _ hl9 er2) (cwV 1 hts gX4_confirm_X4_requireCall rfl rfl rfl hd_X4_requireCall ⟨by decide, by decide⟩) hOK hK hP hD hS hA hNN (ci := 4) (q0 := 0) (N := 12) rfl (wC_0 ad cA σ) rfl hl.1 rfl (Nat.le_of_ble_eq_true rfl) dX4_confirm_2 ⟨by decide, by decide⟩) (gx_nov rfl) rfl hF ht9 hlocks hK hD hS hA
  refine gx_Rv (rest2 := (.ref (ad 0) :: [.int p1])) (gx_runV (As := [.int p1]) (Qc := gQXv D (wC ad cA) (tC cA) _ _) hS9 (tyc_T_requireCall l D ad cA _ σ p1 _ hl9 er2) (cwV 1 hts gX4_confirm_X4_requireCall rfl rfl rfl hd_X4_requireCall ⟨by decide, by decide⟩) hOK hK hP hD hS hA hNN (ci := 4) (q0 := 0) (N := 12) rfl (wC_0 ad cA σ) rfl hl.1 rfl (Nat.le_of_ble_eq_true rfl) dX4_confirm_2 ⟨by decide, by decide⟩) rfl hK hD hS hA (fun H locs hP hD hS => ?_)
  refine lv_aload_n hx hb dX4_confirm_5 rfl (lv_at hl 0 rfl) ?_
  refine lv_iload_n hx hb dX4_confirm_6 rfl (lv_at hl 1 rfl) ?_
  rcases bX_some hF with ⟨kr4, r4, σ3, er4, hF⟩ | ⟨r4, σ3, er4, hF⟩
  · exact gx_T (gx_runV (As := [.int p1]) (Qc := gQXv D (wC ad cA) (tC cA) _ _) hS9 (tyc_T_requireOngoing l D ad cA _ σ1 p1 _ hl9 er4) (cwV 1 hts gX4_confirm_X4_requireOngoing rfl rfl rfl hd_X4_requireOngoing ⟨by decide, by decide⟩) hOK hK hP hD hS hA hNN (ci := 4) (q0 := 0) (N := 12) rfl (wC_0 ad cA σ1) rfl hl.1 rfl (Nat.le_of_ble_eq_true rfl) dX4_confirm_7 ⟨by decide, by decide⟩) (gx_nov rfl) rfl hF ht9 hlocks hK hD hS hA
  refine gx_Rv (rest2 := (.ref (ad 0) :: [.int p1])) (gx_runV (As := [.int p1]) (Qc := gQXv D (wC ad cA) (tC cA) _ _) hS9 (tyc_T_requireOngoing l D ad cA _ σ1 p1 _ hl9 er4) (cwV 1 hts gX4_confirm_X4_requireOngoing rfl rfl rfl hd_X4_requireOngoing ⟨by decide, by decide⟩) hOK hK hP hD hS hA hNN (ci := 4) (q0 := 0) (N := 12) rfl (wC_0 ad cA σ1) rfl hl.1 rfl (Nat.le_of_ble_eq_true rfl) dX4_confirm_7 ⟨by decide, by decide⟩) rfl hK hD hS hA (fun H locs hP hD hS => ?_)
  refine lv_aload_n hx hb dX4_confirm_10 rfl (lv_at hl 0 rfl) ?_
  refine va_get (D := D) (ci := 4) (v := .ref (ad 5)) (C := RX4) (T := TX4) (N := 12) hx hb hts hiX4 hown hK hP 0 (wC_0 ad cA σ3) rfl 4 (by decide) hw0 (fun _ h9 => h9) rfl dX4_confirm_11 ?_
  refine lv_iload_n hx hb dX4_confirm_14 rfl (lv_at hl 1 rfl) ?_
  obtain ⟨r5, er5, hF⟩ := bR_some hF
  refine gc_Vi (As := [.int p1]) hS9 (tyc_B_openBooking l D ad cA _ σ3 p1 r5 er5) (cwV 1 hts gX4_confirm_X3_openBooking rfl rfl rfl hd_X3_openBooking ⟨by decide, by decide⟩) hK hP hD hS hA hNN (ci := 3) (q0 := 5) (N := 9) rfl (wC_5 ad cA σ3) rfl hl.1 rfl (Nat.le_of_ble_eq_true rfl) dX4_confirm_15 (fun H locs hP hD hS => ?_)
  refine lv_istore_n (lv' := [(2, .int r5), (0, .ref (ad 0)), (1, .int p1)]) hx hb dX4_confirm_18 rfl hl (by decide) rfl (fun ls hl => ?_)
  refine lv_iload_n hx hb dX4_confirm_19 rfl (lv_at hl 0 rfl) ?_
  refine lv_iconst (v := (-1)) hx hb dX4_confirm_20 (by decide) ?_
  refine lv_icmp_ne (tgt := 34) hx hb dX4_confirm_21 (by decide) (fun c_6 => ?_) (fun c_6 => ?_)
  · have hF := iteF hF c_6
    refine lv_aload_n hx hb dX4_confirm_34 rfl (lv_at hl 1 rfl) ?_
    refine va_get (D := D) (ci := 4) (v := .ref (ad 4)) (C := RX4) (T := TX4) (N := 12) hx hb hts hiX4 hown hK hP 0 (wC_0 ad cA σ3) rfl 3 (by decide) hw2 (fun _ h9 => h9) rfl dX4_confirm_35 ?_
    refine lv_iload_n hx hb dX4_confirm_38 rfl (lv_at hl 0 rfl) ?_
    refine lv_iconst (v := 2) hx hb dX4_confirm_39 (by decide) ?_
    obtain ⟨σ7, e7, hF⟩ := bR_some hF
    refine gc_Vv (As := [.int r5, .int 2]) hS9 (tyc_L_keep l D ad cA _ σ3 r5 2 σ7 e7) (cwV 2 hts gX4_confirm_X1_keep rfl rfl rfl hd_X1_keep ⟨by decide, by decide⟩) hK hP hD hS hA hNN (ci := 1) (q0 := 4) (N := 9) rfl (wC_4 ad cA σ3) rfl hl.1 rfl (Nat.le_of_ble_eq_true rfl) dX4_confirm_40 (fun H locs hP hD hS => ?_)
    refine lv_aload_n hx hb dX4_confirm_43 rfl (lv_at hl 1 rfl) ?_
    refine va_get (D := D) (ci := 4) (v := .ref (ad 5)) (C := RX4) (T := TX4) (N := 12) hx hb hts hiX4 hown hK hP 0 (wC_0 ad cA σ7) rfl 4 (by decide) hw0 (fun _ h9 => h9) rfl dX4_confirm_44 ?_
    refine lv_iload_n hx hb dX4_confirm_47 rfl (lv_at hl 2 rfl) ?_
    refine lv_iconst (v := (-1)) hx hb dX4_confirm_48 (by decide) ?_
    obtain ⟨σ8, e8, hF⟩ := bR_some hF
    refine gc_Vv (As := [.int p1, .int (-1)]) hS9 (tyc_B_setOpenBooking l D ad cA _ σ7 p1 (-1) σ8 e8) (cwV 2 hts gX4_confirm_X3_setOpenBooking rfl rfl rfl hd_X3_setOpenBooking ⟨by decide, by decide⟩) hK hP hD hS hA hNN (ci := 3) (q0 := 5) (N := 9) rfl (wC_5 ad cA σ7) rfl hl.1 rfl (Nat.le_of_ble_eq_true rfl) dX4_confirm_49 (fun H locs hP hD hS => ?_)
    refine lv_iload_n hx hb dX4_confirm_52 rfl (lv_at hl 0 rfl) ?_
    exact g_iretX hx hb hr rfl hlocks hP hK hD hS dX4_confirm_53 hF
  · have hF := iteT hF c_6
    exact gx_throwS (own := RX4) (cls := "java/lang/IllegalStateException") (text := "no booking is open") (k := 1) hx hb hl9 hown rfl (by decide +kernel) hw3 hw4 (fun w h => hts w (List.mem_cons_of_mem _ (List.mem_append_left _ (List.mem_append_right _ h)))) gnoX4_77 ggdX4_73_77 hOK (List.mem_of_getElem? (i := 8) rfl) (by rw [hml]; exact hl.1) ht9 hlocks hP hK hD hS dX4_confirm_24 dX4_confirm_27 dX4_confirm_28 dX4_confirm_30 dX4_confirm_33 ⟨by decide, by decide, by decide, by decide⟩ hF
set_option maxHeartbeats 4000000 in
set_option maxRecDepth 100000 in
theorem tyc_L_opened (l : Launch) (D : va_G) (ad : Nat → Nat) (cA : Nat → ClassId) (sz : Nat) (σ : tyS) (r : Int32) (hF : tyf_L_opened σ  = some r) : gMi l yX1_opened wsX1_opened ({ frames := 0, cells := 0, slots := 0, locals := 0 } : Room) D (wC ad cA) (tC cA) [.ref (ad 4)] sz σ r σ := by
  refine Met.ofW (cc := cX1_opened) (maxL := 1) (ret := (some .int)) (by decide) rfl ?_
  intro p e s m args below meth c s₁ B hml hv
  obtain ⟨rfl, hsz, hP, hK, hD0, hNN⟩ := hv
  have hx := B.exec
  have hb := B.bytes
  have hr := B.returns
  have hts := atoms_spec (ws := wsX1_opened) B.pre
  have hown : s.vm.findClass RX1 = some m.cls := findClass_of_methodNamed B.named
  have hlocks := B.notSynchronized
  subst hsz
  have hD := hD0.self (sz := s.heap.size)
  generalize hAe : va_A (wC ad cA σ) s.heap.size = A at hD ⊢
  have hA : ∀ q : Nat, s.heap.size ≤ q → A q := fun q h => by rw [← hAe]; exact Or.inr h
  clear hAe hD0
  have hS : va_S A s.heap s.heap [] := va_S.rf
  have hl := lv_entry ([.ref (ad 4)]) (n := 1) (Nat.le_of_ble_eq_true rfl)
  rw [lg_entry_eq]
  generalize (lg_sl ([.ref (ad 4)]) ++ List.replicate (1 - (lg_sl ([.ref (ad 4)])).length) Slot.unset).toArray = ls at hl ⊢
  have hl : lv_has ls 1 [(0, .ref (ad 4))] := hl
  have hw0 := hts (.fieldLink RX1 42 "TrunkYards$Ledger" "count" "I") (List.mem_cons_of_mem _ (List.mem_of_getElem? (i := 0) rfl))
  have hiX1 : ∀ w ∈ wsX10, w ∈ wsX1_opened := fun w h => List.mem_cons_of_mem _ (List.mem_append_right _ h)
  unfold tyf_L_opened at hF
  refine lv_aload_n hx hb dX1_opened_0 rfl (lv_at hl 0 rfl) ?_
  refine va_get (D := D) (ci := 1) (v := .int (σ.2 5)) (C := RX1) (T := TX1) (N := 9) hx hb hts hiX1 hown hK hP 4 (wC_4 ad cA σ) rfl 8 (by decide) hw0 (fun _ h9 => h9) rfl dX1_opened_1 ?_
  exact g_iretR hx hb hr rfl hlocks hP hK hD hS dX1_opened_4 hF
set_option maxHeartbeats 4000000 in
set_option maxRecDepth 100000 in
theorem tyc_T_requireBooking (l : Launch) (D : va_G) (ad : Nat → Nat) (cA : Nat → ClassId) (sz : Nat) (σ : tyS) (p1 : Int32) (res : tyX) (hl9 : l.stackTraces = false) (hF : tyf_T_requireBooking σ p1 = some res) : gXv gStr l yX4_requireBooking wsX4_requireBooking ({ frames := 6, cells := 1, slots := 6, locals := 82 } : Room) D (wC ad cA) (tC cA) [.ref (ad 0), .int p1] sz σ res := by
  refine ty_ofW (cc := cX4_requireBooking) (maxL := 2) (ret := none) (by decide) rfl ?_
  intro p e s m args below meth c s₁ B hml ht9 hv
  obtain ⟨rfl, ⟨hsz, hP, hK, hD0, hNN⟩, hOK⟩ := hv
  have hx := B.exec
  have hb := B.bytes
  have hr := B.returns
  have hts := atoms_spec (ws := wsX4_requireBooking) B.pre
  have hown : s.vm.findClass RX4 = some m.cls := findClass_of_methodNamed B.named
  have hlocks := B.notSynchronized
  subst hsz
  have hD := hD0.self (sz := s.heap.size)
  generalize hAe : va_A (wC ad cA σ) s.heap.size = A at hD hOK ⊢
  have hA : ∀ q : Nat, s.heap.size ≤ q → A q := fun q h => by rw [← hAe]; exact Or.inr h
  clear hAe hD0
  have hS : va_S A s.heap s.heap [] := va_S.rf
  have hl := lv_entry ([.ref (ad 0), .int p1]) (n := 2) (Nat.le_of_ble_eq_true rfl)
  rw [lg_entry_eq]
  generalize (lg_sl ([.ref (ad 0), .int p1]) ++ List.replicate (2 - (lg_sl ([.ref (ad 0), .int p1])).length) Slot.unset).toArray = ls at hl ⊢
  have hl : lv_has ls 2 [(0, .ref (ad 0)), (1, .int p1)] := hl
  have hS9 : CallFix p m c cX4_requireBooking 2 s _ wsX4_requireBooking RX4 := ⟨hx, hb, hml, hown, hts⟩
  have hw0 := hts (.classLink RX4 261 "java/lang/IndexOutOfBoundsException") (List.mem_cons_of_mem _ (List.mem_of_getElem? (i := 0) rfl))
  have hw1 := hts (.initialized "java/lang/IndexOutOfBoundsException") (List.mem_cons_of_mem _ (List.mem_of_getElem? (i := 1) rfl))
  have hw2 := hts (.fieldLink RX4 29 "TrunkYards" "ledger" "LTrunkYards$Ledger;") (List.mem_cons_of_mem _ (List.mem_of_getElem? (i := 2) rfl))
  have hiX4 : ∀ w ∈ wsX40, w ∈ wsX4_requireBooking := fun w h => List.mem_cons_of_mem _ (List.mem_append_left _ (List.mem_append_left _ (List.mem_append_right _ h)))
  unfold tyf_T_requireBooking at hF
  refine lv_iload_n hx hb dX4_requireBooking_0 rfl (lv_at hl 1 rfl) ?_
  refine lv_if_lt (tgt := 15) hx hb dX4_requireBooking_1 (by decide) (fun c_1 => ?_) (fun c_1 => ?_)
  · have hF := iteT hF c_1
    exact gx_throwSW (own := RX4) (cls := "java/lang/IndexOutOfBoundsException") (text := "there never was such a booking") (k := 2) hx hb hl9 hown rfl (by decide +kernel) hw0 hw1 (fun w h => hts w (List.mem_cons_of_mem _ (List.mem_append_right _ h))) gnoX4_265 ggdX4_261_265 hOK (List.mem_of_getElem? (i := 31) rfl) (by rw [hml]; exact hl.1) ht9 hlocks hP hK hD hS dX4_requireBooking_15 dX4_requireBooking_18 dX4_requireBooking_19 dX4_requireBooking_22 dX4_requireBooking_25 ⟨by decide, by decide, by decide, by decide⟩ hF
  · have hF := iteF hF c_1
    refine lv_iload_n hx hb dX4_requireBooking_4 rfl (lv_at hl 1 rfl) ?_
    refine lv_aload_n hx hb dX4_requireBooking_5 rfl (lv_at hl 0 rfl) ?_
    refine va_get (D := D) (ci := 4) (v := .ref (ad 4)) (C := RX4) (T := TX4) (N := 12) hx hb hts hiX4 hown hK hP 0 (wC_0 ad cA σ) rfl 3 (by decide) hw2 (fun _ h9 => h9) rfl dX4_requireBooking_6 ?_
    obtain ⟨r2, er2, hF⟩ := bR_some hF
    refine gc_Vi (As := []) hS9 (tyc_L_opened l D ad cA _ σ  r2 er2) (cwV 0 hts gX4_requireBooking_X1_opened rfl rfl rfl hd_X1_opened ⟨by decide, by decide⟩) hK hP hD hS hA hNN (ci := 1) (q0 := 4) (N := 9) rfl (wC_4 ad cA σ) rfl hl.1 rfl (Nat.le_of_ble_eq_true rfl) dX4_requireBooking_9 (fun H locs hP hD hS => ?_)
    refine lv_icmp_lt (tgt := 26) hx hb dX4_requireBooking_12 (by decide) (fun c_3 => ?_) (fun c_3 => ?_)
    · have hF := iteT hF c_3
      exact g_vretX hx hb hr hlocks hP hK hD hS dX4_requireBooking_26 hF
    · have hF := iteF hF c_3
      exact gx_throwSW (own := RX4) (cls := "java/lang/IndexOutOfBoundsException") (text := "there never was such a booking") (k := 2) hx hb hl9 hown rfl (by decide +kernel) hw0 hw1 (fun w h => hts w (List.mem_cons_of_mem _ (List.mem_append_right _ h))) gnoX4_265 ggdX4_261_265 hOK (List.mem_of_getElem? (i := 31) rfl) (by rw [hml]; exact hl.1) ht9 hlocks hP hK hD hS dX4_requireBooking_15 dX4_requireBooking_18 dX4_requireBooking_19 dX4_requireBooking_22 dX4_requireBooking_25 ⟨by decide, by decide, by decide, by decide⟩ hF
set_option maxHeartbeats 4000000 in
set_option maxRecDepth 100000 in
theorem tyc_L_standing (l : Launch) (D : va_G) (ad : Nat → Nat) (cA : Nat → ClassId) (sz : Nat) (σ : tyS) (p1 : Int32) (r : Int32) (hF : tyf_L_standing σ p1 = some r) : gMi l yX1_standing wsX1_standing ({ frames := 0, cells := 0, slots := 0, locals := 0 } : Room) D (wC ad cA) (tC cA) [.ref (ad 4), .int p1] sz σ r σ := by
  refine Met.ofW (cc := cX1_standing) (maxL := 2) (ret := (some .int)) (by decide) rfl ?_
  intro p e s m args below meth c s₁ B hml hv
  obtain ⟨rfl, hsz, hP, hK, hD0, hNN⟩ := hv
  have hx := B.exec
  have hb := B.bytes
  have hr := B.returns
  have hts := atoms_spec (ws := wsX1_standing) B.pre
  have hown : s.vm.findClass RX1 = some m.cls := findClass_of_methodNamed B.named
  have hlocks := B.notSynchronized
  subst hsz
  have hD := hD0.self (sz := s.heap.size)
  generalize hAe : va_A (wC ad cA σ) s.heap.size = A at hD ⊢
  have hA : ∀ q : Nat, s.heap.size ≤ q → A q := fun q h => by rw [← hAe]; exact Or.inr h
  clear hAe hD0
  have hS : va_S A s.heap s.heap [] := va_S.rf
  have hl := lv_entry ([.ref (ad 4), .int p1]) (n := 2) (Nat.le_of_ble_eq_true rfl)
  rw [lg_entry_eq]
  generalize (lg_sl ([.ref (ad 4), .int p1]) ++ List.replicate (2 - (lg_sl ([.ref (ad 4), .int p1])).length) Slot.unset).toArray = ls at hl ⊢
  have hl : lv_has ls 2 [(0, .ref (ad 4)), (1, .int p1)] := hl
  have hw0 := hts (.fieldLink RX1 21 "TrunkYards$Ledger" "standings" "[I") (List.mem_cons_of_mem _ (List.mem_of_getElem? (i := 0) rfl))
  have hiX1 : ∀ w ∈ wsX10, w ∈ wsX1_standing := fun w h => List.mem_cons_of_mem _ (List.mem_append_right _ h)
  unfold tyf_L_standing at hF
  refine lv_aload_n hx hb dX1_standing_0 rfl (lv_at hl 0 rfl) ?_
  refine va_get (D := D) (ci := 1) (v := .ref (ad 16)) (C := RX1) (T := TX1) (N := 9) hx hb hts hiX1 hown hK hP 4 (wC_4 ad cA σ) rfl 3 (by decide) hw0 (fun _ h9 => h9) rfl dX1_standing_1 ?_
  refine lv_iload_n hx hb dX1_standing_4 rfl (lv_at hl 1 rfl) ?_
  obtain ⟨hb_1, hF⟩ := chk_some hF
  refine va_iald hx hb hK hP 16 10 (wC_16 ad cA σ) (tC_16 cA) hb_1 dX1_standing_5 ?_
  exact g_iretR hx hb hr rfl hlocks hP hK hD hS dX1_standing_6 hF
set_option maxHeartbeats 4000000 in
set_option maxRecDepth 100000 in
theorem tyc_L_customer (l : Launch) (D : va_G) (ad : Nat → Nat) (cA : Nat → ClassId) (sz : Nat) (σ : tyS) (p1 : Int32) (r : Int32) (hF : tyf_L_customer σ p1 = some r) : gMi l yX1_customer wsX1_customer ({ frames := 0, cells := 0, slots := 0, locals := 0 } : Room) D (wC ad cA) (tC cA) [.ref (ad 4), .int p1] sz σ r σ := by
  refine Met.ofW (cc := cX1_customer) (maxL := 2) (ret := (some .int)) (by decide) rfl ?_
  intro p e s m args below meth c s₁ B hml hv
  obtain ⟨rfl, hsz, hP, hK, hD0, hNN⟩ := hv
  have hx := B.exec
  have hb := B.bytes
  have hr := B.returns
  have hts := atoms_spec (ws := wsX1_customer) B.pre
  have hown : s.vm.findClass RX1 = some m.cls := findClass_of_methodNamed B.named
  have hlocks := B.notSynchronized
  subst hsz
  have hD := hD0.self (sz := s.heap.size)
  generalize hAe : va_A (wC ad cA σ) s.heap.size = A at hD ⊢
  have hA : ∀ q : Nat, s.heap.size ≤ q → A q := fun q h => by rw [← hAe]; exact Or.inr h
  clear hAe hD0
  have hS : va_S A s.heap s.heap [] := va_S.rf
  have hl := lv_entry ([.ref (ad 4), .int p1]) (n := 2) (Nat.le_of_ble_eq_true rfl)
  rw [lg_entry_eq]
  generalize (lg_sl ([.ref (ad 4), .int p1]) ++ List.replicate (2 - (lg_sl ([.ref (ad 4), .int p1])).length) Slot.unset).toArray = ls at hl ⊢
  have hl : lv_has ls 2 [(0, .ref (ad 4)), (1, .int p1)] := hl
  have hw0 := hts (.fieldLink RX1 9 "TrunkYards$Ledger" "customers" "[I") (List.mem_cons_of_mem _ (List.mem_of_getElem? (i := 0) rfl))
  have hiX1 : ∀ w ∈ wsX10, w ∈ wsX1_customer := fun w h => List.mem_cons_of_mem _ (List.mem_append_right _ h)
  unfold tyf_L_customer at hF
  refine lv_aload_n hx hb dX1_customer_0 rfl (lv_at hl 0 rfl) ?_
  refine va_get (D := D) (ci := 1) (v := .ref (ad 13)) (C := RX1) (T := TX1) (N := 9) hx hb hts hiX1 hown hK hP 4 (wC_4 ad cA σ) rfl 0 (by decide) hw0 (fun _ h9 => h9) rfl dX1_customer_1 ?_
  refine lv_iload_n hx hb dX1_customer_4 rfl (lv_at hl 1 rfl) ?_
  obtain ⟨hb_1, hF⟩ := chk_some hF
  refine va_iald hx hb hK hP 13 7 (wC_13 ad cA σ) (tC_13 cA) hb_1 dX1_customer_5 ?_
  exact g_iretR hx hb hr rfl hlocks hP hK hD hS dX1_customer_6 hF
set_option maxHeartbeats 4000000 in
set_option maxRecDepth 100000 in
theorem tyc_L_yard (l : Launch) (D : va_G) (ad : Nat → Nat) (cA : Nat → ClassId) (sz : Nat) (σ : tyS) (p1 : Int32) (r : Int32) (hF : tyf_L_yard σ p1 = some r) : gMi l yX1_yard wsX1_yard ({ frames := 0, cells := 0, slots := 0, locals := 0 } : Room) D (wC ad cA) (tC cA) [.ref (ad 4), .int p1] sz σ r σ := by
  refine Met.ofW (cc := cX1_yard) (maxL := 2) (ret := (some .int)) (by decide) rfl ?_
  intro p e s m args below meth c s₁ B hml hv
  obtain ⟨rfl, hsz, hP, hK, hD0, hNN⟩ := hv
  have hx := B.exec
  have hb := B.bytes
  have hr := B.returns
  have hts := atoms_spec (ws := wsX1_yard) B.pre
  have hown : s.vm.findClass RX1 = some m.cls := findClass_of_methodNamed B.named
  have hlocks := B.notSynchronized
  subst hsz
  have hD := hD0.self (sz := s.heap.size)
  generalize hAe : va_A (wC ad cA σ) s.heap.size = A at hD ⊢
  have hA : ∀ q : Nat, s.heap.size ≤ q → A q := fun q h => by rw [← hAe]; exact Or.inr h
  clear hAe hD0
  have hS : va_S A s.heap s.heap [] := va_S.rf
  have hl := lv_entry ([.ref (ad 4), .int p1]) (n := 2) (Nat.le_of_ble_eq_true rfl)
  rw [lg_entry_eq]
  generalize (lg_sl ([.ref (ad 4), .int p1]) ++ List.replicate (2 - (lg_sl ([.ref (ad 4), .int p1])).length) Slot.unset).toArray = ls at hl ⊢
  have hl : lv_has ls 2 [(0, .ref (ad 4)), (1, .int p1)] := hl
  have hw0 := hts (.fieldLink RX1 15 "TrunkYards$Ledger" "yards" "[I") (List.mem_cons_of_mem _ (List.mem_of_getElem? (i := 0) rfl))
  have hiX1 : ∀ w ∈ wsX10, w ∈ wsX1_yard := fun w h => List.mem_cons_of_mem _ (List.mem_append_right _ h)
  unfold tyf_L_yard at hF
  refine lv_aload_n hx hb dX1_yard_0 rfl (lv_at hl 0 rfl) ?_
  refine va_get (D := D) (ci := 1) (v := .ref (ad 14)) (C := RX1) (T := TX1) (N := 9) hx hb hts hiX1 hown hK hP 4 (wC_4 ad cA σ) rfl 1 (by decide) hw0 (fun _ h9 => h9) rfl dX1_yard_1 ?_
  refine lv_iload_n hx hb dX1_yard_4 rfl (lv_at hl 1 rfl) ?_
  obtain ⟨hb_1, hF⟩ := chk_some hF
  refine va_iald hx hb hK hP 14 8 (wC_14 ad cA σ) (tC_14 cA) hb_1 dX1_yard_5 ?_
  exact g_iretR hx hb hr rfl hlocks hP hK hD hS dX1_yard_6 hF
