set_option maxHeartbeats 4000000 in
set_option maxRecDepth 100000 in
theorem tyc_T_load (l : Launch) (D : va_G) (ad : Nat → Nat) (cA : Nat → ClassId) (sz : Nat) (σ : tyS) (p1 : Int32) (τ : tyS) (hF : tyf_T_load σ p1 = some τ) : gMv l yX4_load wsX4_load ({ frames := 1, cells := 0, slots := 0, locals := 22 } : Room) D (wC ad cA) (tC cA) [.ref (ad 0), .int p1] sz σ τ := by
  refine Met.ofW (cc := cX4_load) (maxL := 5) (ret := none) (by decide) rfl ?_
  intro p e s m args below meth c s₁ B hml hv
  obtain ⟨rfl, hsz, hP, hK, hD0, hNN⟩ := hv
  have hx := B.exec
  have hb := B.bytes
  have hr := B.returns
  have hts := atoms_spec (ws := wsX4_load) B.pre
  have hown : s.vm.findClass RX4 = some m.cls := findClass_of_methodNamed B.named
  have hlocks := B.notSynchronized
  subst hsz
  have hD := hD0.self (sz := s.heap.size)
  generalize hAe : va_A (wC ad cA σ) s.heap.size = A at hD ⊢
  have hA : ∀ q : Nat, s.heap.size ≤ q → A q := fun q h => by rw [← hAe]; exact Or.inr h
  clear hAe hD0
  have hS : va_S A s.heap s.heap [] := va_S.rf
  have hl := lv_entry ([.ref (ad 0), .int p1]) (n := 5) (Nat.le_of_ble_eq_true rfl)
  rw [lg_entry_eq]
  generalize (lg_sl ([.ref (ad 0), .int p1]) ++ List.replicate (5 - (lg_sl ([.ref (ad 0), .int p1])).length) Slot.unset).toArray = ls at hl ⊢
  have hl : lv_has ls 5 [(0, .ref (ad 0)), (1, .int p1)] := hl
  have hS9 : CallFix p m c cX4_load 5 s _ wsX4_load RX4 := ⟨hx, hb, hml, hown, hts⟩
  have hw0 := hts (.fieldLink RX4 12 "TrunkYards" "rows" "LTrunkYards$Rows;") (List.mem_cons_of_mem _ (List.mem_of_getElem? (i := 0) rfl))
  have hiX4 : ∀ w ∈ wsX40, w ∈ wsX4_load := fun w h => List.mem_cons_of_mem _ (List.mem_append_left _ (List.mem_append_left _ (List.mem_append_right _ h)))
  have hw2 := hts (.fieldLink RX4 29 "TrunkYards" "ledger" "LTrunkYards$Ledger;") (List.mem_cons_of_mem _ (List.mem_of_getElem? (i := 1) rfl))
  have hw3 := hts (.fieldLink RX4 40 "TrunkYards" "lastGrain" "[I") (List.mem_cons_of_mem _ (List.mem_of_getElem? (i := 2) rfl))
  unfold tyf_T_load at hF
  refine lv_iconst (v := 0) hx hb dX4_load_0 (by decide) ?_
  refine lv_istore_n (lv' := [(2, .int 0), (0, .ref (ad 0)), (1, .int p1)]) hx hb dX4_load_1 rfl hl (by decide) rfl (fun ls hl => ?_)
  have lp2 : ∀ (k : tyS → Int32 → Int32 → Option tyS), (∀ (σ0 : tyS) (x1 : Int32) (x2 : Int32) , k σ0 x1 x2 = some τ → ∀ (H : Heap) (locs : List Loc) (ls : Array Slot), va_P D vwCl (wC ad cA σ0) H → va_D A (wC ad cA σ0) → va_S A s.heap H locs → lv_has ls 5 [(0, .ref (ad 0)), (1, .int x1), (2, .int x2)] → W p l e (headSpec wsX4_load ({ frames := 1, cells := 0, slots := 0, locals := 22 } : Room)).room s m #[.ref (ad 0), .int p1] below meth c H locs 0 0 (MQ below (gQv D (wC ad cA) (tC cA) A τ) #[.ref (ad 0), .int p1] s 0 0 A) (F0 m 71 ls [])) → ∀ (n : Nat), ∀ (σ0 : tyS) (x1 : Int32) (x2 : Int32) , tyl_T_load_2 k n σ0 x1 x2 = some τ → ∀ (H : Heap) (locs : List Loc) (ls : Array Slot), va_P D vwCl (wC ad cA σ0) H → va_D A (wC ad cA σ0) → va_S A s.heap H locs → lv_has ls 5 [(0, .ref (ad 0)), (1, .int x1), (2, .int x2)] → W p l e (headSpec wsX4_load ({ frames := 1, cells := 0, slots := 0, locals := 22 } : Room)).room s m #[.ref (ad 0), .int p1] below meth c H locs 0 0 (MQ below (gQv D (wC ad cA) (tC cA) A τ) #[.ref (ad 0), .int p1] s 0 0 A) (F0 m 2 ls []) := by
    intro k hk n
    induction n with
    | zero =>
      intro σ0 x1 x2 hF
      exact absurd hF (fun h => nomatch h)
    | succ n ih =>
      intro σ0 x1 x2 hF H locs ls hP hD hS hl
      have hF : tyb_T_load_2 k (tyl_T_load_2 k n) σ0 x1 x2 = some τ := hF
      unfold tyb_T_load_2 at hF
      refine lv_iload_n hx hb dX4_load_2 rfl (lv_at hl 2 rfl) ?_
      refine lv_aload_n hx hb dX4_load_3 rfl (lv_at hl 0 rfl) ?_
      refine va_get (D := D) (ci := 4) (v := .ref (ad 1)) (C := RX4) (T := TX4) (N := 12) hx hb hts hiX4 hown hK hP 0 (wC_0 ad cA σ0) rfl 0 (by decide) hw0 (fun _ h9 => h9) rfl dX4_load_4 ?_
      refine lv_iload_n hx hb dX4_load_7 rfl (lv_at hl 1 rfl) ?_
      obtain ⟨r1, er1, hF⟩ := bR_some hF
      refine gc_Vi (As := [.int x1]) hS9 (tyc_R1_count l D ad cA _ σ0 x1 r1 er1) (cwV 1 hts gX4_load_X2_count rfl rfl rfl hd_X2_count ⟨by decide, by decide⟩) hK hP hD hS hA hNN (ci := 2) (q0 := 1) (N := 2) rfl (wC_1 ad cA σ0) rfl hl.1 rfl (Nat.le_of_ble_eq_true rfl) dX4_load_8 (fun H locs hP hD hS => ?_)
      refine lv_icmp_ge (tgt := 71) hx hb dX4_load_11 (by decide) (fun c_2 => ?_) (fun c_2 => ?_)
      · have hF := iteT hF c_2
        exact hk σ0 x1 x2 hF _ _ _ hP hD hS (lv_sub hl [0, 1, 2] rfl)
      · have hF := iteF hF c_2
        refine lv_aload_n hx hb dX4_load_14 rfl (lv_at hl 0 rfl) ?_
        refine va_get (D := D) (ci := 4) (v := .ref (ad 1)) (C := RX4) (T := TX4) (N := 12) hx hb hts hiX4 hown hK hP 0 (wC_0 ad cA σ0) rfl 0 (by decide) hw0 (fun _ h9 => h9) rfl dX4_load_15 ?_
        refine lv_iload_n hx hb dX4_load_18 rfl (lv_at hl 1 rfl) ?_
        refine lv_iload_n hx hb dX4_load_19 rfl (lv_at hl 2 rfl) ?_
        obtain ⟨r3, er3, hF⟩ := bR_some hF
        refine gc_Vi (As := [.int x1, .int x2]) hS9 (tyc_R1_get l D ad cA _ σ0 x1 x2 r3 er3) (cwV 2 hts gX4_load_X2_get rfl rfl rfl hd_X2_get ⟨by decide, by decide⟩) hK hP hD hS hA hNN (ci := 2) (q0 := 1) (N := 2) rfl (wC_1 ad cA σ0) rfl hl.1 rfl (Nat.le_of_ble_eq_true rfl) dX4_load_20 (fun H locs hP hD hS => ?_)
        refine lv_istore_n (lv' := [(3, .int r3), (0, .ref (ad 0)), (1, .int x1), (2, .int x2)]) hx hb dX4_load_23 rfl hl (by decide) rfl (fun ls hl => ?_)
        refine lv_aload_n hx hb dX4_load_24 rfl (lv_at hl 1 rfl) ?_
        refine va_get (D := D) (ci := 4) (v := .ref (ad 4)) (C := RX4) (T := TX4) (N := 12) hx hb hts hiX4 hown hK hP 0 (wC_0 ad cA σ0) rfl 3 (by decide) hw2 (fun _ h9 => h9) rfl dX4_load_25 ?_
        refine lv_iload_n hx hb dX4_load_28 rfl (lv_at hl 0 rfl) ?_
        obtain ⟨r4, er4, hF⟩ := bR_some hF
        refine gc_Vi (As := [.int r3]) hS9 (tyc_L_bookingFor l D ad cA _ σ0 r3 r4 er4) (cwV 1 hts gX4_load_X1_bookingFor rfl rfl rfl hd_X1_bookingFor ⟨by decide, by decide⟩) hK hP hD hS hA hNN (ci := 1) (q0 := 4) (N := 9) rfl (wC_4 ad cA σ0) rfl hl.1 rfl (Nat.le_of_ble_eq_true rfl) dX4_load_29 (fun H locs hP hD hS => ?_)
        refine lv_istore (lv' := [(4, .int r4), (3, .int r3), (0, .ref (ad 0)), (1, .int x1), (2, .int x2)]) hx hb dX4_load_32 hl (by decide) rfl (fun ls hl => ?_)
        refine lv_iload hx hb dX4_load_34 (lv_at hl 0 rfl) ?_
        refine lv_iconst (v := (-1)) hx hb dX4_load_36 (by decide) ?_
        refine lv_icmp_eq (tgt := 65) hx hb dX4_load_37 (by decide) (fun c_5 => ?_) (fun c_5 => ?_)
        · have hF := iteT hF c_5
          refine lv_iinc (v := (x2 + 1)) (lv' := [(2, .int (x2 + 1)), (4, .int r4), (3, .int r3), (0, .ref (ad 0)), (1, .int x1)]) hx hb dX4_load_65 hl (k := 4) rfl rfl (by decide) rfl (fun ls hl => ?_)
          refine lv_goto (tgt := 2) hx hb dX4_load_68 (by decide) ?_
          exact ih σ0 x1 (x2 + 1) hF _ _ _ hP hD hS (lv_sub hl [3, 4, 0] rfl)
        · have hF := iteF hF c_5
          refine lv_aload_n hx hb dX4_load_40 rfl (lv_at hl 2 rfl) ?_
          refine va_get (D := D) (ci := 4) (v := .ref (ad 29)) (C := RX4) (T := TX4) (N := 12) hx hb hts hiX4 hown hK hP 0 (wC_0 ad cA σ0) rfl 5 (by decide) hw3 (fun _ h9 => h9) rfl dX4_load_41 ?_
          refine lv_iload_n hx hb dX4_load_44 rfl (lv_at hl 1 rfl) ?_
          refine lv_aload_n hx hb dX4_load_45 rfl (lv_at hl 2 rfl) ?_
          refine va_get (D := D) (ci := 4) (v := .ref (ad 4)) (C := RX4) (T := TX4) (N := 12) hx hb hts hiX4 hown hK hP 0 (wC_0 ad cA σ0) rfl 3 (by decide) hw2 (fun _ h9 => h9) rfl dX4_load_46 ?_
          refine lv_iload hx hb dX4_load_49 (lv_at hl 0 rfl) ?_
          obtain ⟨r6, er6, hF⟩ := bR_some hF
          refine gc_Vi (As := [.int r4]) hS9 (tyc_L_grain l D ad cA _ σ0 r4 r6 er6) (cwV 1 hts gX4_load_X1_grain rfl rfl rfl hd_X1_grain ⟨by decide, by decide⟩) hK hP hD hS hA hNN (ci := 1) (q0 := 4) (N := 9) rfl (wC_4 ad cA σ0) rfl hl.1 rfl (Nat.le_of_ble_eq_true rfl) dX4_load_51 (fun H locs hP hD hS => ?_)
          obtain ⟨hb_7, hF⟩ := chk_some hF
          obtain ⟨σ8, e8, hF⟩ := stp_some hF
          refine gw_iast hx hb hK hP hD hS (wC_29 ad cA σ0) (tC_29 cA) (wCs_29 ad cA σ0) hb_7 dX4_load_54 e8 (fun H locs hP hD hS => ?_)
          refine lv_aload_n hx hb dX4_load_55 rfl (lv_at hl 2 rfl) ?_
          refine va_get (D := D) (ci := 4) (v := .ref (ad 4)) (C := RX4) (T := TX4) (N := 12) hx hb hts hiX4 hown hK hP 0 (wC_0 ad cA σ8) rfl 3 (by decide) hw2 (fun _ h9 => h9) rfl dX4_load_56 ?_
          refine lv_iload hx hb dX4_load_59 (lv_at hl 0 rfl) ?_
          refine lv_iconst (v := 3) hx hb dX4_load_61 (by decide) ?_
          obtain ⟨σ9, e9, hF⟩ := bR_some hF
          refine gc_Vv (As := [.int r4, .int 3]) hS9 (tyc_L_keep l D ad cA _ σ8 r4 3 σ9 e9) (cwV 2 hts gX4_load_X1_keep rfl rfl rfl hd_X1_keep ⟨by decide, by decide⟩) hK hP hD hS hA hNN (ci := 1) (q0 := 4) (N := 9) rfl (wC_4 ad cA σ8) rfl hl.1 rfl (Nat.le_of_ble_eq_true rfl) dX4_load_62 (fun H locs hP hD hS => ?_)
          refine lv_iinc (v := (x2 + 1)) (lv' := [(2, .int (x2 + 1)), (4, .int r4), (3, .int r3), (0, .ref (ad 0)), (1, .int x1)]) hx hb dX4_load_65 hl (k := 4) rfl rfl (by decide) rfl (fun ls hl => ?_)
          refine lv_goto (tgt := 2) hx hb dX4_load_68 (by decide) ?_
          exact ih σ9 x1 (x2 + 1) hF _ _ _ hP hD hS (lv_sub hl [3, 4, 0] rfl)
  refine lp2 _ ?_ 64 σ p1 0 hF _ _ _ hP hD hS (lv_sub hl [1, 2, 0] rfl)
  intro σ0 x1 x2 hF H locs ls hP hD hS hl
  exact g_vretN hx hb hr hlocks hP hK hD hS dX4_load_71 hF
set_option maxHeartbeats 4000000 in
set_option maxRecDepth 100000 in
theorem tyc_T_depart (l : Launch) (D : va_G) (ad : Nat → Nat) (cA : Nat → ClassId) (sz : Nat) (σ : tyS) (p1 : Int32) (p2 : Int32) (p3 : Int32) (res : tyX) (hl9 : l.stackTraces = false) (hF : tyf_T_depart σ p1 p2 p3 = some res) : gXi gStr l yX4_depart wsX4_depart ({ frames := 7, cells := 1, slots := 6, locals := 103 } : Room) D (wC ad cA) (tC cA) [.ref (ad 0), .int p1, .int p2, .int p3] sz σ res := by
  refine ty_ofW (cc := cX4_depart) (maxL := 6) (ret := (some .int)) (by decide) rfl ?_
  intro p e s m args below meth c s₁ B hml ht9 hv
  obtain ⟨rfl, ⟨hsz, hP, hK, hD0, hNN⟩, hOK⟩ := hv
  have hx := B.exec
  have hb := B.bytes
  have hr := B.returns
  have hts := atoms_spec (ws := wsX4_depart) B.pre
  have hown : s.vm.findClass RX4 = some m.cls := findClass_of_methodNamed B.named
  have hlocks := B.notSynchronized
  subst hsz
  have hD := hD0.self (sz := s.heap.size)
  generalize hAe : va_A (wC ad cA σ) s.heap.size = A at hD hOK ⊢
  have hA : ∀ q : Nat, s.heap.size ≤ q → A q := fun q h => by rw [← hAe]; exact Or.inr h
  clear hAe hD0
  have hS : va_S A s.heap s.heap [] := va_S.rf
  have hl := lv_entry ([.ref (ad 0), .int p1, .int p2, .int p3]) (n := 6) (Nat.le_of_ble_eq_true rfl)
  rw [lg_entry_eq]
  generalize (lg_sl ([.ref (ad 0), .int p1, .int p2, .int p3]) ++ List.replicate (6 - (lg_sl ([.ref (ad 0), .int p1, .int p2, .int p3])).length) Slot.unset).toArray = ls at hl ⊢
  have hl : lv_has ls 6 [(0, .ref (ad 0)), (1, .int p1), (2, .int p2), (3, .int p3)] := hl
  have hS9 : CallFix p m c cX4_depart 6 s _ wsX4_depart RX4 := ⟨hx, hb, hml, hown, hts⟩
  have hw0 := hts (.fieldLink RX4 274 "TrunkYards" "departed" "I") (List.mem_cons_of_mem _ (List.mem_of_getElem? (i := 4) rfl))
  have hiX4 : ∀ w ∈ wsX40, w ∈ wsX4_depart := fun w h => List.mem_cons_of_mem _ (List.mem_append_left _ (List.mem_append_left _ (List.mem_append_left _ (List.mem_append_left _ (List.mem_append_left _ (List.mem_append_right _ h))))))
  have hw2 := hts (.classLink RX4 73 "java/lang/IllegalStateException") (List.mem_cons_of_mem _ (List.mem_of_getElem? (i := 2) rfl))
  have hw3 := hts (.initialized "java/lang/IllegalStateException") (List.mem_cons_of_mem _ (List.mem_of_getElem? (i := 3) rfl))
  have hw4 := hts (.fieldLink RX4 54 "TrunkYards" "destination" "[I") (List.mem_cons_of_mem _ (List.mem_of_getElem? (i := 5) rfl))
  have hw5 := hts (.fieldLink RX4 12 "TrunkYards" "rows" "LTrunkYards$Rows;") (List.mem_cons_of_mem _ (List.mem_of_getElem? (i := 6) rfl))
  have hw6 := hts (.classLink RX4 86 "java/lang/IllegalArgumentException") (List.mem_cons_of_mem _ (List.mem_of_getElem? (i := 0) rfl))
  have hw7 := hts (.initialized "java/lang/IllegalArgumentException") (List.mem_cons_of_mem _ (List.mem_of_getElem? (i := 1) rfl))
  unfold tyf_T_depart at hF
  refine lv_iload_n hx hb dX4_depart_0 rfl (lv_at hl 1 rfl) ?_
  refine lv_iload_n hx hb dX4_depart_1 rfl (lv_at hl 2 rfl) ?_
  rcases bX_some hF with ⟨kr2, r2, σ1, er2, hF⟩ | ⟨r2, σ1, er2, hF⟩
  · exact gx_T (gx_runS (As := [.int p1, .int p2]) (Qc := gQXv D (wC ad cA) (tC cA) _ _) hS9 (tyc_T_requireTrack l D ad cA _ σ p1 p2 _ hl9 er2) (va_cwS 2 hts gX4_depart_X4_requireTrack rfl rfl rfl hd_X4_requireTrack ⟨by decide, by decide⟩) hOK hK hP hD hS hA hNN rfl hl.1 rfl (Nat.le_of_ble_eq_true rfl) dX4_depart_2 ⟨by decide, by decide⟩) (gx_nov rfl) rfl hF ht9 hlocks hK hD hS hA
  refine gx_Rv (rest2 := ([.int p1, .int p2])) (gx_runS (As := [.int p1, .int p2]) (Qc := gQXv D (wC ad cA) (tC cA) _ _) hS9 (tyc_T_requireTrack l D ad cA _ σ p1 p2 _ hl9 er2) (va_cwS 2 hts gX4_depart_X4_requireTrack rfl rfl rfl hd_X4_requireTrack ⟨by decide, by decide⟩) hOK hK hP hD hS hA hNN rfl hl.1 rfl (Nat.le_of_ble_eq_true rfl) dX4_depart_2 ⟨by decide, by decide⟩) rfl hK hD hS hA (fun H locs hP hD hS => ?_)
  refine lv_iload_n hx hb dX4_depart_5 rfl (lv_at hl 3 rfl) ?_
  rcases bX_some hF with ⟨kr4, r4, σ3, er4, hF⟩ | ⟨r4, σ3, er4, hF⟩
  · exact gx_T (gx_runS (As := [.int p3]) (Qc := gQXv D (wC ad cA) (tC cA) _ _) hS9 (tyc_T_requireYard l D ad cA _ σ1 p3 _ hl9 er4) (va_cwS 1 hts gX4_depart_X4_requireYard rfl rfl rfl hd_X4_requireYard ⟨by decide, by decide⟩) hOK hK hP hD hS hA hNN rfl hl.1 rfl (Nat.le_of_ble_eq_true rfl) dX4_depart_6 ⟨by decide, by decide⟩) (gx_nov rfl) rfl hF ht9 hlocks hK hD hS hA
  refine gx_Rv (rest2 := ([.int p3])) (gx_runS (As := [.int p3]) (Qc := gQXv D (wC ad cA) (tC cA) _ _) hS9 (tyc_T_requireYard l D ad cA _ σ1 p3 _ hl9 er4) (va_cwS 1 hts gX4_depart_X4_requireYard rfl rfl rfl hd_X4_requireYard ⟨by decide, by decide⟩) hOK hK hP hD hS hA hNN rfl hl.1 rfl (Nat.le_of_ble_eq_true rfl) dX4_depart_6 ⟨by decide, by decide⟩) rfl hK hD hS hA (fun H locs hP hD hS => ?_)
  refine lv_iload_n hx hb dX4_depart_9 rfl (lv_at hl 1 rfl) ?_
  refine lv_iload_n hx hb dX4_depart_10 rfl (lv_at hl 3 rfl) ?_
  refine lv_icmp_ne (tgt := 25) hx hb dX4_depart_11 (by decide) (fun c_5 => ?_) (fun c_5 => ?_)
  · have hF := iteF hF c_5
    refine lv_iload_n hx hb dX4_depart_25 rfl (lv_at hl 1 rfl) ?_
    refine lv_iload_n hx hb dX4_depart_26 rfl (lv_at hl 2 rfl) ?_
    obtain ⟨r6, er6, hF⟩ := bR_some hF
    refine gc_Si (As := [.int p1, .int p2]) hS9 (tyc_T_rowOf l D ad cA _ σ3 p1 p2 r6 er6) (va_cwS 2 hts gX4_depart_X4_rowOf rfl rfl rfl hd_X4_rowOf ⟨by decide, by decide⟩) hK hP hD hS hA hNN rfl hl.1 rfl (Nat.le_of_ble_eq_true rfl) dX4_depart_27 (fun H locs hP hD hS => ?_)
    refine lv_istore (lv' := [(4, .int r6), (0, .ref (ad 0)), (1, .int p1), (2, .int p2), (3, .int p3)]) hx hb dX4_depart_30 hl (by decide) rfl (fun ls hl => ?_)
    refine lv_aload_n hx hb dX4_depart_32 rfl (lv_at hl 1 rfl) ?_
    refine va_get (D := D) (ci := 4) (v := .int (σ3.2 1)) (C := RX4) (T := TX4) (N := 12) hx hb hts hiX4 hown hK hP 0 (wC_0 ad cA σ3) rfl 9 (by decide) hw0 (fun _ h9 => h9) rfl dX4_depart_33 ?_
    refine lv_bipush (v := 40) hx hb dX4_depart_36 (by decide) ?_
    refine lv_icmp_ge (tgt := 50) hx hb dX4_depart_38 (by decide) (fun c_7 => ?_) (fun c_7 => ?_)
    · have hF := iteT hF c_7
      exact gx_throwSW (own := RX4) (cls := "java/lang/IllegalStateException") (text := "no train can depart from the track") (k := 1) hx hb hl9 hown rfl (by decide +kernel) hw2 hw3 (fun w h => hts w (List.mem_cons_of_mem _ (List.mem_append_right _ h))) gnoX4_77 ggdX4_73_77 hOK (List.mem_of_getElem? (i := 20) rfl) (by rw [hml]; exact hl.1) ht9 hlocks hP hK hD hS dX4_depart_50 dX4_depart_53 dX4_depart_54 dX4_depart_57 dX4_depart_60 ⟨by decide, by decide, by decide, by decide⟩ hF
    · have hF := iteF hF c_7
      refine lv_aload_n hx hb dX4_depart_41 rfl (lv_at hl 1 rfl) ?_
      refine lv_iload hx hb dX4_depart_42 (lv_at hl 0 rfl) ?_
      obtain ⟨r8, er8, hF⟩ := bR_some hF
      refine gc_Vi (As := [.int r6]) hS9 (tyc_T_canDepart l D ad cA _ σ3 r6 r8 er8) (cwV 1 hts gX4_depart_X4_canDepart rfl rfl rfl hd_X4_canDepart ⟨by decide, by decide⟩) hK hP hD hS hA hNN (ci := 4) (q0 := 0) (N := 12) rfl (wC_0 ad cA σ3) rfl hl.1 rfl (Nat.le_of_ble_eq_true rfl) dX4_depart_44 (fun H locs hP hD hS => ?_)
      refine lv_if_ne (tgt := 61) hx hb dX4_depart_47 (by decide) (fun c_9 => ?_) (fun c_9 => ?_)
      · have hF := iteF hF c_9
        refine lv_aload_n hx hb dX4_depart_61 rfl (lv_at hl 1 rfl) ?_
        refine va_get (D := D) (ci := 4) (v := .int (σ3.2 1)) (C := RX4) (T := TX4) (N := 12) hx hb hts hiX4 hown hK hP 0 (wC_0 ad cA σ3) rfl 9 (by decide) hw0 (fun _ h9 => h9) rfl dX4_depart_62 ?_
        refine lv_istore (lv' := [(5, .int (σ3.2 1)), (4, .int r6), (0, .ref (ad 0)), (1, .int p1), (2, .int p2), (3, .int p3)]) hx hb dX4_depart_65 hl (by decide) rfl (fun ls hl => ?_)
        refine lv_aload_n hx hb dX4_depart_67 rfl (lv_at hl 2 rfl) ?_
        refine lv_dup hx hb dX4_depart_68 rfl ?_
        refine va_get (D := D) (ci := 4) (v := .int (σ3.2 1)) (C := RX4) (T := TX4) (N := 12) hx hb hts hiX4 hown hK hP 0 (wC_0 ad cA σ3) rfl 9 (by decide) hw0 (fun _ h9 => h9) rfl dX4_depart_69 ?_
        refine lv_iconst (v := 1) hx hb dX4_depart_72 (by decide) ?_
        refine lv_iadd hx hb dX4_depart_73 ?_
        obtain ⟨σ10, e10, hF⟩ := stp_some hF
        refine gw_put hx hb hts hiX4 tyX4 tyX4_ok nmX4 hown hK hP hD hS 0 (wC_0 ad cA σ3) rfl 9 (by decide) hw0 (fun _ h9 => h9) rfl (by decide +kernel) (show 9 < 12 from by decide) (wCv_1 ad cA σ3 _) dX4_depart_74 e10 (fun H locs hP hD hS => ?_)
        refine lv_aload_n hx hb dX4_depart_77 rfl (lv_at hl 2 rfl) ?_
        refine va_get (D := D) (ci := 4) (v := .ref (ad 31)) (C := RX4) (T := TX4) (N := 12) hx hb hts hiX4 hown hK hP 0 (wC_0 ad cA σ10) rfl 7 (by decide) hw4 (fun _ h9 => h9) rfl dX4_depart_78 ?_
        refine lv_iload hx hb dX4_depart_81 (lv_at hl 0 rfl) ?_
        refine lv_iload_n hx hb dX4_depart_83 rfl (lv_at hl 5 rfl) ?_
        obtain ⟨hb_11, hF⟩ := chk_some hF
        obtain ⟨σ12, e12, hF⟩ := stp_some hF
        refine gw_iast hx hb hK hP hD hS (wC_31 ad cA σ10) (tC_31 cA) (wCs_31 ad cA σ10) hb_11 dX4_depart_84 e12 (fun H locs hP hD hS => ?_)
        refine lv_aload_n hx hb dX4_depart_85 rfl (lv_at hl 2 rfl) ?_
        refine lv_iload hx hb dX4_depart_86 (lv_at hl 1 rfl) ?_
        obtain ⟨σ13, e13, hF⟩ := bR_some hF
        refine gc_Vv (As := [.int r6]) hS9 (tyc_T_load l D ad cA _ σ12 r6 σ13 e13) (cwV 1 hts gX4_depart_X4_load rfl rfl rfl hd_X4_load ⟨by decide, by decide⟩) hK hP hD hS hA hNN (ci := 4) (q0 := 0) (N := 12) rfl (wC_0 ad cA σ12) rfl hl.1 rfl (Nat.le_of_ble_eq_true rfl) dX4_depart_88 (fun H locs hP hD hS => ?_)
        refine lv_aload_n hx hb dX4_depart_91 rfl (lv_at hl 2 rfl) ?_
        refine lv_iload hx hb dX4_depart_92 (lv_at hl 1 rfl) ?_
        refine lv_bipush (v := 15) hx hb dX4_depart_94 (by decide) ?_
        refine lv_iload hx hb dX4_depart_96 (lv_at hl 0 rfl) ?_
        refine lv_iadd hx hb dX4_depart_98 ?_
        refine lv_aload_n hx hb dX4_depart_99 rfl (lv_at hl 2 rfl) ?_
        refine va_get (D := D) (ci := 4) (v := .ref (ad 1)) (C := RX4) (T := TX4) (N := 12) hx hb hts hiX4 hown hK hP 0 (wC_0 ad cA σ13) rfl 0 (by decide) hw5 (fun _ h9 => h9) rfl dX4_depart_100 ?_
        refine lv_iload hx hb dX4_depart_103 (lv_at hl 1 rfl) ?_
        obtain ⟨r14, er14, hF⟩ := bR_some hF
        refine gc_Vi (As := [.int r6]) hS9 (tyc_R1_count l D ad cA _ σ13 r6 r14 er14) (cwV 1 hts gX4_depart_X2_count rfl rfl rfl hd_X2_count ⟨by decide, by decide⟩) hK hP hD hS hA hNN (ci := 2) (q0 := 1) (N := 2) rfl (wC_1 ad cA σ13) rfl hl.1 rfl (Nat.le_of_ble_eq_true rfl) dX4_depart_105 (fun H locs hP hD hS => ?_)
        obtain ⟨σ15, e15, hF⟩ := bR_some hF
        refine gc_Vv (As := [.int r6, .int (15 + (σ3.2 1)), .int r14]) hS9 (tyc_T_moveLast l D ad cA _ σ13 r6 (15 + (σ3.2 1)) r14 σ15 e15) (cwV 3 hts gX4_depart_X4_moveLast rfl rfl rfl hd_X4_moveLast ⟨by decide, by decide⟩) hK hP hD hS hA hNN (ci := 4) (q0 := 0) (N := 12) rfl (wC_0 ad cA σ13) rfl hl.1 rfl (Nat.le_of_ble_eq_true rfl) dX4_depart_108 (fun H locs hP hD hS => ?_)
        refine lv_iload hx hb dX4_depart_111 (lv_at hl 0 rfl) ?_
        exact g_iretX hx hb hr rfl hlocks hP hK hD hS dX4_depart_113 hF
      · have hF := iteT hF c_9
        exact gx_throwSW (own := RX4) (cls := "java/lang/IllegalStateException") (text := "no train can depart from the track") (k := 1) hx hb hl9 hown rfl (by decide +kernel) hw2 hw3 (fun w h => hts w (List.mem_cons_of_mem _ (List.mem_append_right _ h))) gnoX4_77 ggdX4_73_77 hOK (List.mem_of_getElem? (i := 20) rfl) (by rw [hml]; exact hl.1) ht9 hlocks hP hK hD hS dX4_depart_50 dX4_depart_53 dX4_depart_54 dX4_depart_57 dX4_depart_60 ⟨by decide, by decide, by decide, by decide⟩ hF
  · have hF := iteT hF c_5
    exact gx_throwSW (own := RX4) (cls := "java/lang/IllegalArgumentException") (text := "both yards are the same") (k := 0) hx hb hl9 hown rfl (by decide +kernel) hw6 hw7 (fun w h => hts w (List.mem_cons_of_mem _ (List.mem_append_left _ (List.mem_append_right _ h)))) gnoX4_90 ggdX4_86_90 hOK (List.mem_of_getElem? (i := 19) rfl) (by rw [hml]; exact hl.1) ht9 hlocks hP hK hD hS dX4_depart_14 dX4_depart_17 dX4_depart_18 dX4_depart_21 dX4_depart_24 ⟨by decide, by decide, by decide, by decide⟩ hF
set_option maxHeartbeats 4000000 in
set_option maxRecDepth 100000 in
theorem tyc_T_unload (l : Launch) (D : va_G) (ad : Nat → Nat) (cA : Nat → ClassId) (sz : Nat) (σ : tyS) (p1 : Int32) (τ : tyS) (hF : tyf_T_unload σ p1 = some τ) : gMv l yX4_unload wsX4_unload ({ frames := 2, cells := 0, slots := 0, locals := 45 } : Room) D (wC ad cA) (tC cA) [.ref (ad 0), .int p1] sz σ τ := by
  refine Met.ofW (cc := cX4_unload) (maxL := 4) (ret := none) (by decide) rfl ?_
  intro p e s m args below meth c s₁ B hml hv
  obtain ⟨rfl, hsz, hP, hK, hD0, hNN⟩ := hv
  have hx := B.exec
  have hb := B.bytes
  have hr := B.returns
  have hts := atoms_spec (ws := wsX4_unload) B.pre
  have hown : s.vm.findClass RX4 = some m.cls := findClass_of_methodNamed B.named
  have hlocks := B.notSynchronized
  subst hsz
  have hD := hD0.self (sz := s.heap.size)
  generalize hAe : va_A (wC ad cA σ) s.heap.size = A at hD ⊢
  have hA : ∀ q : Nat, s.heap.size ≤ q → A q := fun q h => by rw [← hAe]; exact Or.inr h
  clear hAe hD0
  have hS : va_S A s.heap s.heap [] := va_S.rf
  have hl := lv_entry ([.ref (ad 0), .int p1]) (n := 4) (Nat.le_of_ble_eq_true rfl)
  rw [lg_entry_eq]
  generalize (lg_sl ([.ref (ad 0), .int p1]) ++ List.replicate (4 - (lg_sl ([.ref (ad 0), .int p1])).length) Slot.unset).toArray = ls at hl ⊢
  have hl : lv_has ls 4 [(0, .ref (ad 0)), (1, .int p1)] := hl
  have hS9 : CallFix p m c cX4_unload 4 s _ wsX4_unload RX4 := ⟨hx, hb, hml, hown, hts⟩
  have hw0 := hts (.fieldLink RX4 12 "TrunkYards" "rows" "LTrunkYards$Rows;") (List.mem_cons_of_mem _ (List.mem_of_getElem? (i := 0) rfl))
  have hiX4 : ∀ w ∈ wsX40, w ∈ wsX4_unload := fun w h => List.mem_cons_of_mem _ (List.mem_append_left _ (List.mem_append_left _ (List.mem_append_right _ h)))
  have hw2 := hts (.fieldLink RX4 29 "TrunkYards" "ledger" "LTrunkYards$Ledger;") (List.mem_cons_of_mem _ (List.mem_of_getElem? (i := 1) rfl))
  unfold tyf_T_unload at hF
  refine lv_iconst (v := 0) hx hb dX4_unload_0 (by decide) ?_
  refine lv_istore_n (lv' := [(2, .int 0), (0, .ref (ad 0)), (1, .int p1)]) hx hb dX4_unload_1 rfl hl (by decide) rfl (fun ls hl => ?_)
  have lp2 : ∀ (k : tyS → Int32 → Int32 → Option tyS), (∀ (σ0 : tyS) (x1 : Int32) (x2 : Int32) , k σ0 x1 x2 = some τ → ∀ (H : Heap) (locs : List Loc) (ls : Array Slot), va_P D vwCl (wC ad cA σ0) H → va_D A (wC ad cA σ0) → va_S A s.heap H locs → lv_has ls 4 [(0, .ref (ad 0)), (1, .int x1), (2, .int x2)] → W p l e (headSpec wsX4_unload ({ frames := 2, cells := 0, slots := 0, locals := 45 } : Room)).room s m #[.ref (ad 0), .int p1] below meth c H locs 0 0 (MQ below (gQv D (wC ad cA) (tC cA) A τ) #[.ref (ad 0), .int p1] s 0 0 A) (F0 m 51 ls [])) → ∀ (n : Nat), ∀ (σ0 : tyS) (x1 : Int32) (x2 : Int32) , tyl_T_unload_2 k n σ0 x1 x2 = some τ → ∀ (H : Heap) (locs : List Loc) (ls : Array Slot), va_P D vwCl (wC ad cA σ0) H → va_D A (wC ad cA σ0) → va_S A s.heap H locs → lv_has ls 4 [(0, .ref (ad 0)), (1, .int x1), (2, .int x2)] → W p l e (headSpec wsX4_unload ({ frames := 2, cells := 0, slots := 0, locals := 45 } : Room)).room s m #[.ref (ad 0), .int p1] below meth c H locs 0 0 (MQ below (gQv D (wC ad cA) (tC cA) A τ) #[.ref (ad 0), .int p1] s 0 0 A) (F0 m 2 ls []) := by
    intro k hk n
    induction n with
    | zero =>
      intro σ0 x1 x2 hF
      exact absurd hF (fun h => nomatch h)
    | succ n ih =>
      intro σ0 x1 x2 hF H locs ls hP hD hS hl
      have hF : tyb_T_unload_2 k (tyl_T_unload_2 k n) σ0 x1 x2 = some τ := hF
      unfold tyb_T_unload_2 at hF
      refine lv_iload_n hx hb dX4_unload_2 rfl (lv_at hl 2 rfl) ?_
      refine lv_aload_n hx hb dX4_unload_3 rfl (lv_at hl 0 rfl) ?_
      refine va_get (D := D) (ci := 4) (v := .ref (ad 1)) (C := RX4) (T := TX4) (N := 12) hx hb hts hiX4 hown hK hP 0 (wC_0 ad cA σ0) rfl 0 (by decide) hw0 (fun _ h9 => h9) rfl dX4_unload_4 ?_
      refine lv_iload_n hx hb dX4_unload_7 rfl (lv_at hl 1 rfl) ?_
      obtain ⟨r1, er1, hF⟩ := bR_some hF
      refine gc_Vi (As := [.int x1]) hS9 (tyc_R1_count l D ad cA _ σ0 x1 r1 er1) (cwV 1 hts gX4_unload_X2_count rfl rfl rfl hd_X2_count ⟨by decide, by decide⟩) hK hP hD hS hA hNN (ci := 2) (q0 := 1) (N := 2) rfl (wC_1 ad cA σ0) rfl hl.1 rfl (Nat.le_of_ble_eq_true rfl) dX4_unload_8 (fun H locs hP hD hS => ?_)
      refine lv_icmp_ge (tgt := 51) hx hb dX4_unload_11 (by decide) (fun c_2 => ?_) (fun c_2 => ?_)
      · have hF := iteT hF c_2
        exact hk σ0 x1 x2 hF _ _ _ hP hD hS (lv_sub hl [0, 1, 2] rfl)
      · have hF := iteF hF c_2
        refine lv_aload_n hx hb dX4_unload_14 rfl (lv_at hl 0 rfl) ?_
        refine va_get (D := D) (ci := 4) (v := .ref (ad 4)) (C := RX4) (T := TX4) (N := 12) hx hb hts hiX4 hown hK hP 0 (wC_0 ad cA σ0) rfl 3 (by decide) hw2 (fun _ h9 => h9) rfl dX4_unload_15 ?_
        refine lv_aload_n hx hb dX4_unload_18 rfl (lv_at hl 0 rfl) ?_
        refine va_get (D := D) (ci := 4) (v := .ref (ad 1)) (C := RX4) (T := TX4) (N := 12) hx hb hts hiX4 hown hK hP 0 (wC_0 ad cA σ0) rfl 0 (by decide) hw0 (fun _ h9 => h9) rfl dX4_unload_19 ?_
        refine lv_iload_n hx hb dX4_unload_22 rfl (lv_at hl 1 rfl) ?_
        refine lv_iload_n hx hb dX4_unload_23 rfl (lv_at hl 2 rfl) ?_
        obtain ⟨r3, er3, hF⟩ := bR_some hF
        refine gc_Vi (As := [.int x1, .int x2]) hS9 (tyc_R1_get l D ad cA _ σ0 x1 x2 r3 er3) (cwV 2 hts gX4_unload_X2_get rfl rfl rfl hd_X2_get ⟨by decide, by decide⟩) hK hP hD hS hA hNN (ci := 2) (q0 := 1) (N := 2) rfl (wC_1 ad cA σ0) rfl hl.1 rfl (Nat.le_of_ble_eq_true rfl) dX4_unload_24 (fun H locs hP hD hS => ?_)
        obtain ⟨r4, er4, hF⟩ := bR_some hF
        refine gc_Vi (As := [.int r3]) hS9 (tyc_L_bookingFor l D ad cA _ σ0 r3 r4 er4) (cwV 1 hts gX4_unload_X1_bookingFor rfl rfl rfl hd_X1_bookingFor ⟨by decide, by decide⟩) hK hP hD hS hA hNN (ci := 1) (q0 := 4) (N := 9) rfl (wC_4 ad cA σ0) rfl hl.1 rfl (Nat.le_of_ble_eq_true rfl) dX4_unload_27 (fun H locs hP hD hS => ?_)
        refine lv_istore_n (lv' := [(3, .int r4), (0, .ref (ad 0)), (1, .int x1), (2, .int x2)]) hx hb dX4_unload_30 rfl hl (by decide) rfl (fun ls hl => ?_)
        refine lv_iload_n hx hb dX4_unload_31 rfl (lv_at hl 0 rfl) ?_
        refine lv_iconst (v := (-1)) hx hb dX4_unload_32 (by decide) ?_
        refine lv_icmp_eq (tgt := 45) hx hb dX4_unload_33 (by decide) (fun c_5 => ?_) (fun c_5 => ?_)
        · have hF := iteT hF c_5
          refine lv_iinc (v := (x2 + 1)) (lv' := [(2, .int (x2 + 1)), (3, .int r4), (0, .ref (ad 0)), (1, .int x1)]) hx hb dX4_unload_45 hl (k := 3) rfl rfl (by decide) rfl (fun ls hl => ?_)
          refine lv_goto (tgt := 2) hx hb dX4_unload_48 (by decide) ?_
          exact ih σ0 x1 (x2 + 1) hF _ _ _ hP hD hS (lv_sub hl [2, 3, 0] rfl)
        · have hF := iteF hF c_5
          refine lv_aload_n hx hb dX4_unload_36 rfl (lv_at hl 1 rfl) ?_
          refine va_get (D := D) (ci := 4) (v := .ref (ad 4)) (C := RX4) (T := TX4) (N := 12) hx hb hts hiX4 hown hK hP 0 (wC_0 ad cA σ0) rfl 3 (by decide) hw2 (fun _ h9 => h9) rfl dX4_unload_37 ?_
          refine lv_iload_n hx hb dX4_unload_40 rfl (lv_at hl 0 rfl) ?_
          refine lv_iconst (v := 4) hx hb dX4_unload_41 (by decide) ?_
          obtain ⟨σ6, e6, hF⟩ := bR_some hF
          refine gc_Vv (As := [.int r4, .int 4]) hS9 (tyc_L_release l D ad cA _ σ0 r4 4 σ6 e6) (cwV 2 hts gX4_unload_X1_release rfl rfl rfl hd_X1_release ⟨by decide, by decide⟩) hK hP hD hS hA hNN (ci := 1) (q0 := 4) (N := 9) rfl (wC_4 ad cA σ0) rfl hl.1 rfl (Nat.le_of_ble_eq_true rfl) dX4_unload_42 (fun H locs hP hD hS => ?_)
          refine lv_iinc (v := (x2 + 1)) (lv' := [(2, .int (x2 + 1)), (3, .int r4), (0, .ref (ad 0)), (1, .int x1)]) hx hb dX4_unload_45 hl (k := 3) rfl rfl (by decide) rfl (fun ls hl => ?_)
          refine lv_goto (tgt := 2) hx hb dX4_unload_48 (by decide) ?_
          exact ih σ6 x1 (x2 + 1) hF _ _ _ hP hD hS (lv_sub hl [2, 3, 0] rfl)
  refine lp2 _ ?_ 64 σ p1 0 hF _ _ _ hP hD hS (lv_sub hl [1, 2, 0] rfl)
  intro σ0 x1 x2 hF H locs ls hP hD hS hl
  exact g_vretN hx hb hr hlocks hP hK hD hS dX4_unload_51 hF
set_option maxHeartbeats 4000000 in
set_option maxRecDepth 100000 in
theorem tyc_T_arrive (l : Launch) (D : va_G) (ad : Nat → Nat) (cA : Nat → ClassId) (sz : Nat) (σ : tyS) (p1 : Int32) (p2 : Int32) (res : tyX) (hl9 : l.stackTraces = false) (hF : tyf_T_arrive σ p1 p2 = some res) : gXi gStr l yX4_arrive wsX4_arrive ({ frames := 6, cells := 1, slots := 6, locals := 82 } : Room) D (wC ad cA) (tC cA) [.ref (ad 0), .int p1, .int p2] sz σ res := by
  refine ty_ofW (cc := cX4_arrive) (maxL := 6) (ret := (some .int)) (by decide) rfl ?_
  intro p e s m args below meth c s₁ B hml ht9 hv
  obtain ⟨rfl, ⟨hsz, hP, hK, hD0, hNN⟩, hOK⟩ := hv
  have hx := B.exec
  have hb := B.bytes
  have hr := B.returns
  have hts := atoms_spec (ws := wsX4_arrive) B.pre
  have hown : s.vm.findClass RX4 = some m.cls := findClass_of_methodNamed B.named
  have hlocks := B.notSynchronized
  subst hsz
  have hD := hD0.self (sz := s.heap.size)
  generalize hAe : va_A (wC ad cA σ) s.heap.size = A at hD hOK ⊢
  have hA : ∀ q : Nat, s.heap.size ≤ q → A q := fun q h => by rw [← hAe]; exact Or.inr h
  clear hAe hD0
  have hS : va_S A s.heap s.heap [] := va_S.rf
  have hl := lv_entry ([.ref (ad 0), .int p1, .int p2]) (n := 6) (Nat.le_of_ble_eq_true rfl)
  rw [lg_entry_eq]
  generalize (lg_sl ([.ref (ad 0), .int p1, .int p2]) ++ List.replicate (6 - (lg_sl ([.ref (ad 0), .int p1, .int p2])).length) Slot.unset).toArray = ls at hl ⊢
  have hl : lv_has ls 6 [(0, .ref (ad 0)), (1, .int p1), (2, .int p2)] := hl
  have hS9 : CallFix p m c cX4_arrive 6 s _ wsX4_arrive RX4 := ⟨hx, hb, hml, hown, hts⟩
  have hw0 := hts (.classLink RX4 261 "java/lang/IndexOutOfBoundsException") (List.mem_cons_of_mem _ (List.mem_of_getElem? (i := 0) rfl))
  have hw1 := hts (.initialized "java/lang/IndexOutOfBoundsException") (List.mem_cons_of_mem _ (List.mem_of_getElem? (i := 1) rfl))
  have hw2 := hts (.fieldLink RX4 274 "TrunkYards" "departed" "I") (List.mem_cons_of_mem _ (List.mem_of_getElem? (i := 6) rfl))
  have hiX4 : ∀ w ∈ wsX40, w ∈ wsX4_arrive := fun w h => List.mem_cons_of_mem _ (List.mem_append_left _ (List.mem_append_left _ (List.mem_append_left _ (List.mem_append_left _ (List.mem_append_left _ (List.mem_append_left _ (List.mem_append_right _ h)))))))
  have hw4 := hts (.fieldLink RX4 54 "TrunkYards" "destination" "[I") (List.mem_cons_of_mem _ (List.mem_of_getElem? (i := 7) rfl))
  have hw5 := hts (.fieldLink RX4 12 "TrunkYards" "rows" "LTrunkYards$Rows;") (List.mem_cons_of_mem _ (List.mem_of_getElem? (i := 8) rfl))
  have hw6 := hts (.classLink RX4 73 "java/lang/IllegalStateException") (List.mem_cons_of_mem _ (List.mem_of_getElem? (i := 4) rfl))
  have hw7 := hts (.initialized "java/lang/IllegalStateException") (List.mem_cons_of_mem _ (List.mem_of_getElem? (i := 5) rfl))
  have hw8 := hts (.classLink RX4 86 "java/lang/IllegalArgumentException") (List.mem_cons_of_mem _ (List.mem_of_getElem? (i := 2) rfl))
  have hw9 := hts (.initialized "java/lang/IllegalArgumentException") (List.mem_cons_of_mem _ (List.mem_of_getElem? (i := 3) rfl))
  unfold tyf_T_arrive at hF
  refine lv_iload_n hx hb dX4_arrive_0 rfl (lv_at hl 1 rfl) ?_
  refine lv_if_lt (tgt := 12) hx hb dX4_arrive_1 (by decide) (fun c_1 => ?_) (fun c_1 => ?_)
  · have hF := iteT hF c_1
    exact gx_throwSW (own := RX4) (cls := "java/lang/IndexOutOfBoundsException") (text := "there never was such a train") (k := 2) hx hb hl9 hown rfl (by decide +kernel) hw0 hw1 (fun w h => hts w (List.mem_cons_of_mem _ (List.mem_append_left _ (List.mem_append_left _ (List.mem_append_right _ h))))) gnoX4_265 ggdX4_261_265 hOK (List.mem_of_getElem? (i := 21) rfl) (by rw [hml]; exact hl.1) ht9 hlocks hP hK hD hS dX4_arrive_12 dX4_arrive_15 dX4_arrive_16 dX4_arrive_19 dX4_arrive_22 ⟨by decide, by decide, by decide, by decide⟩ hF
  · have hF := iteF hF c_1
    refine lv_iload_n hx hb dX4_arrive_4 rfl (lv_at hl 1 rfl) ?_
    refine lv_aload_n hx hb dX4_arrive_5 rfl (lv_at hl 0 rfl) ?_
    refine va_get (D := D) (ci := 4) (v := .int (σ.2 1)) (C := RX4) (T := TX4) (N := 12) hx hb hts hiX4 hown hK hP 0 (wC_0 ad cA σ) rfl 9 (by decide) hw2 (fun _ h9 => h9) rfl dX4_arrive_6 ?_
    refine lv_icmp_lt (tgt := 23) hx hb dX4_arrive_9 (by decide) (fun c_2 => ?_) (fun c_2 => ?_)
    · have hF := iteT hF c_2
      refine lv_iload_n hx hb dX4_arrive_23 rfl (lv_at hl 2 rfl) ?_
      obtain ⟨r3, er3, hF⟩ := bR_some hF
      refine gc_Si (As := [.int p2]) hS9 (tyc_T_isTrack l D ad cA _ σ p2 r3 er3) (va_cwS 1 hts gX4_arrive_X4_isTrack rfl rfl rfl hd_X4_isTrack ⟨by decide, by decide⟩) hK hP hD hS hA hNN rfl hl.1 rfl (Nat.le_of_ble_eq_true rfl) dX4_arrive_24 (fun H locs hP hD hS => ?_)
      refine lv_if_ne (tgt := 41) hx hb dX4_arrive_27 (by decide) (fun c_4 => ?_) (fun c_4 => ?_)
      · have hF := iteF hF c_4
        refine lv_bipush (v := 15) hx hb dX4_arrive_41 (by decide) ?_
        refine lv_iload_n hx hb dX4_arrive_43 rfl (lv_at hl 1 rfl) ?_
        refine lv_iadd hx hb dX4_arrive_44 ?_
        refine lv_istore_n (lv' := [(3, .int (15 + p1)), (0, .ref (ad 0)), (1, .int p1), (2, .int p2)]) hx hb dX4_arrive_45 rfl hl (by decide) rfl (fun ls hl => ?_)
        refine lv_aload_n hx hb dX4_arrive_46 rfl (lv_at hl 1 rfl) ?_
        refine va_get (D := D) (ci := 4) (v := .ref (ad 31)) (C := RX4) (T := TX4) (N := 12) hx hb hts hiX4 hown hK hP 0 (wC_0 ad cA σ) rfl 7 (by decide) hw4 (fun _ h9 => h9) rfl dX4_arrive_47 ?_
        refine lv_iload_n hx hb dX4_arrive_50 rfl (lv_at hl 2 rfl) ?_
        obtain ⟨hb_5, hF⟩ := chk_some hF
        refine va_iald hx hb hK hP 31 25 (wC_31 ad cA σ) (tC_31 cA) hb_5 dX4_arrive_51 ?_
        refine lv_iload_n hx hb dX4_arrive_52 rfl (lv_at hl 3 rfl) ?_
        obtain ⟨r6, er6, hF⟩ := bR_some hF
        refine gc_Si (As := [.int (σ.1 31 (p1).toNatClampNeg), .int p2]) hS9 (tyc_T_rowOf l D ad cA _ σ (σ.1 31 (p1).toNatClampNeg) p2 r6 er6) (va_cwS 2 hts gX4_arrive_X4_rowOf rfl rfl rfl hd_X4_rowOf ⟨by decide, by decide⟩) hK hP hD hS hA hNN rfl hl.1 rfl (Nat.le_of_ble_eq_true rfl) dX4_arrive_53 (fun H locs hP hD hS => ?_)
        refine lv_istore (lv' := [(4, .int r6), (3, .int (15 + p1)), (0, .ref (ad 0)), (1, .int p1), (2, .int p2)]) hx hb dX4_arrive_56 hl (by decide) rfl (fun ls hl => ?_)
        refine lv_aload_n hx hb dX4_arrive_58 rfl (lv_at hl 2 rfl) ?_
        refine va_get (D := D) (ci := 4) (v := .ref (ad 1)) (C := RX4) (T := TX4) (N := 12) hx hb hts hiX4 hown hK hP 0 (wC_0 ad cA σ) rfl 0 (by decide) hw5 (fun _ h9 => h9) rfl dX4_arrive_59 ?_
        refine lv_iload_n hx hb dX4_arrive_62 rfl (lv_at hl 1 rfl) ?_
        obtain ⟨r7, er7, hF⟩ := bR_some hF
        refine gc_Vi (As := [.int (15 + p1)]) hS9 (tyc_R1_count l D ad cA _ σ (15 + p1) r7 er7) (cwV 1 hts gX4_arrive_X2_count rfl rfl rfl hd_X2_count ⟨by decide, by decide⟩) hK hP hD hS hA hNN (ci := 2) (q0 := 1) (N := 2) rfl (wC_1 ad cA σ) rfl hl.1 rfl (Nat.le_of_ble_eq_true rfl) dX4_arrive_63 (fun H locs hP hD hS => ?_)
        refine lv_istore (lv' := [(5, .int r7), (4, .int r6), (3, .int (15 + p1)), (0, .ref (ad 0)), (1, .int p1), (2, .int p2)]) hx hb dX4_arrive_66 hl (by decide) rfl (fun ls hl => ?_)
        refine lv_iload hx hb dX4_arrive_68 (lv_at hl 0 rfl) ?_
        refine lv_if_eq (tgt := 87) hx hb dX4_arrive_70 (by decide) (fun c_8 => ?_) (fun c_8 => ?_)
        · have hF := iteT hF c_8
          exact gx_throwSW (own := RX4) (cls := "java/lang/IllegalStateException") (text := "the train has arrived, or the track has not enough room") (k := 1) hx hb hl9 hown rfl (by decide +kernel) hw6 hw7 (fun w h => hts w (List.mem_cons_of_mem _ (List.mem_append_right _ h))) gnoX4_77 ggdX4_73_77 hOK (List.mem_of_getElem? (i := 23) rfl) (by rw [hml]; exact hl.1) ht9 hlocks hP hK hD hS dX4_arrive_87 dX4_arrive_90 dX4_arrive_91 dX4_arrive_94 dX4_arrive_97 ⟨by decide, by decide, by decide, by decide⟩ hF
        · have hF := iteF hF c_8
          refine lv_aload_n hx hb dX4_arrive_73 rfl (lv_at hl 3 rfl) ?_
          refine va_get (D := D) (ci := 4) (v := .ref (ad 1)) (C := RX4) (T := TX4) (N := 12) hx hb hts hiX4 hown hK hP 0 (wC_0 ad cA σ) rfl 0 (by decide) hw5 (fun _ h9 => h9) rfl dX4_arrive_74 ?_
          refine lv_iload hx hb dX4_arrive_77 (lv_at hl 1 rfl) ?_
          refine lv_iload hx hb dX4_arrive_79 (lv_at hl 0 rfl) ?_
          obtain ⟨r9, er9, hF⟩ := bR_some hF
          refine gc_Vi (As := [.int r6, .int r7]) hS9 (tyc_R1_hasRoom l D ad cA _ σ r6 r7 r9 er9) (cwV 2 hts gX4_arrive_X2_hasRoom rfl rfl rfl hd_X2_hasRoom ⟨by decide, by decide⟩) hK hP hD hS hA hNN (ci := 2) (q0 := 1) (N := 2) rfl (wC_1 ad cA σ) rfl hl.1 rfl (Nat.le_of_ble_eq_true rfl) dX4_arrive_81 (fun H locs hP hD hS => ?_)
          refine lv_if_ne (tgt := 98) hx hb dX4_arrive_84 (by decide) (fun c_10 => ?_) (fun c_10 => ?_)
          · have hF := iteF hF c_10
            refine lv_aload_n hx hb dX4_arrive_98 rfl (lv_at hl 3 rfl) ?_
            refine lv_iload_n hx hb dX4_arrive_99 rfl (lv_at hl 2 rfl) ?_
            obtain ⟨σ11, e11, hF⟩ := bR_some hF
            refine gc_Vv (As := [.int (15 + p1)]) hS9 (tyc_T_unload l D ad cA _ σ (15 + p1) σ11 e11) (cwV 1 hts gX4_arrive_X4_unload rfl rfl rfl hd_X4_unload ⟨by decide, by decide⟩) hK hP hD hS hA hNN (ci := 4) (q0 := 0) (N := 12) rfl (wC_0 ad cA σ) rfl hl.1 rfl (Nat.le_of_ble_eq_true rfl) dX4_arrive_100 (fun H locs hP hD hS => ?_)
            refine lv_aload_n hx hb dX4_arrive_103 rfl (lv_at hl 3 rfl) ?_
            refine lv_iload_n hx hb dX4_arrive_104 rfl (lv_at hl 2 rfl) ?_
            refine lv_iload hx hb dX4_arrive_105 (lv_at hl 1 rfl) ?_
            refine lv_iload hx hb dX4_arrive_107 (lv_at hl 0 rfl) ?_
            obtain ⟨σ12, e12, hF⟩ := bR_some hF
            refine gc_Vv (As := [.int (15 + p1), .int r6, .int r7]) hS9 (tyc_T_moveLast l D ad cA _ σ11 (15 + p1) r6 r7 σ12 e12) (cwV 3 hts gX4_arrive_X4_moveLast rfl rfl rfl hd_X4_moveLast ⟨by decide, by decide⟩) hK hP hD hS hA hNN (ci := 4) (q0 := 0) (N := 12) rfl (wC_0 ad cA σ11) rfl hl.1 rfl (Nat.le_of_ble_eq_true rfl) dX4_arrive_109 (fun H locs hP hD hS => ?_)
            refine lv_aload_n hx hb dX4_arrive_112 rfl (lv_at hl 3 rfl) ?_
            refine va_get (D := D) (ci := 4) (v := .ref (ad 1)) (C := RX4) (T := TX4) (N := 12) hx hb hts hiX4 hown hK hP 0 (wC_0 ad cA σ12) rfl 0 (by decide) hw5 (fun _ h9 => h9) rfl dX4_arrive_113 ?_
            refine lv_iload hx hb dX4_arrive_116 (lv_at hl 1 rfl) ?_
            obtain ⟨r13, er13, hF⟩ := bR_some hF
            refine gc_Vi (As := [.int r6]) hS9 (tyc_R1_count l D ad cA _ σ12 r6 r13 er13) (cwV 1 hts gX4_arrive_X2_count rfl rfl rfl hd_X2_count ⟨by decide, by decide⟩) hK hP hD hS hA hNN (ci := 2) (q0 := 1) (N := 2) rfl (wC_1 ad cA σ12) rfl hl.1 rfl (Nat.le_of_ble_eq_true rfl) dX4_arrive_118 (fun H locs hP hD hS => ?_)
            exact g_iretX hx hb hr rfl hlocks hP hK hD hS dX4_arrive_121 hF
          · have hF := iteT hF c_10
            exact gx_throwSW (own := RX4) (cls := "java/lang/IllegalStateException") (text := "the train has arrived, or the track has not enough room") (k := 1) hx hb hl9 hown rfl (by decide +kernel) hw6 hw7 (fun w h => hts w (List.mem_cons_of_mem _ (List.mem_append_right _ h))) gnoX4_77 ggdX4_73_77 hOK (List.mem_of_getElem? (i := 23) rfl) (by rw [hml]; exact hl.1) ht9 hlocks hP hK hD hS dX4_arrive_87 dX4_arrive_90 dX4_arrive_91 dX4_arrive_94 dX4_arrive_97 ⟨by decide, by decide, by decide, by decide⟩ hF
      · have hF := iteT hF c_4
        exact gx_throwSW (own := RX4) (cls := "java/lang/IllegalArgumentException") (text := "track is out of range") (k := 0) hx hb hl9 hown rfl (by decide +kernel) hw8 hw9 (fun w h => hts w (List.mem_cons_of_mem _ (List.mem_append_left _ (List.mem_append_right _ h)))) gnoX4_90 ggdX4_86_90 hOK (List.mem_of_getElem? (i := 22) rfl) (by rw [hml]; exact hl.1) ht9 hlocks hP hK hD hS dX4_arrive_30 dX4_arrive_33 dX4_arrive_34 dX4_arrive_37 dX4_arrive_40 ⟨by decide, by decide, by decide, by decide⟩ hF
    · have hF := iteF hF c_2
      exact gx_throwSW (own := RX4) (cls := "java/lang/IndexOutOfBoundsException") (text := "there never was such a train") (k := 2) hx hb hl9 hown rfl (by decide +kernel) hw0 hw1 (fun w h => hts w (List.mem_cons_of_mem _ (List.mem_append_left _ (List.mem_append_left _ (List.mem_append_right _ h))))) gnoX4_265 ggdX4_261_265 hOK (List.mem_of_getElem? (i := 21) rfl) (by rw [hml]; exact hl.1) ht9 hlocks hP hK hD hS dX4_arrive_12 dX4_arrive_15 dX4_arrive_16 dX4_arrive_19 dX4_arrive_22 ⟨by decide, by decide, by decide, by decide⟩ hF
set_option maxHeartbeats 4000000 in
set_option maxRecDepth 100000 in
theorem tyc_T_trains (l : Launch) (D : va_G) (ad : Nat → Nat) (cA : Nat → ClassId) (sz : Nat) (σ : tyS) (r : Int32) (hF : tyf_T_trains σ  = some r) : gMi l yX4_trains wsX4_trains ({ frames := 0, cells := 0, slots := 0, locals := 0 } : Room) D (wC ad cA) (tC cA) [.ref (ad 0)] sz σ r σ := by
  refine Met.ofW (cc := cX4_trains) (maxL := 1) (ret := (some .int)) (by decide) rfl ?_
  intro p e s m args below meth c s₁ B hml hv
  obtain ⟨rfl, hsz, hP, hK, hD0, hNN⟩ := hv
  have hx := B.exec
  have hb := B.bytes
  have hr := B.returns
  have hts := atoms_spec (ws := wsX4_trains) B.pre
  have hown : s.vm.findClass RX4 = some m.cls := findClass_of_methodNamed B.named
  have hlocks := B.notSynchronized
  subst hsz
  have hD := hD0.self (sz := s.heap.size)
  generalize hAe : va_A (wC ad cA σ) s.heap.size = A at hD ⊢
  have hA : ∀ q : Nat, s.heap.size ≤ q → A q := fun q h => by rw [← hAe]; exact Or.inr h
  clear hAe hD0
  have hS : va_S A s.heap s.heap [] := va_S.rf
  have hl := lv_entry ([.ref (ad 0)]) (n := 1) (Nat.le_of_ble_eq_true rfl)
  rw [lg_entry_eq]
  generalize (lg_sl ([.ref (ad 0)]) ++ List.replicate (1 - (lg_sl ([.ref (ad 0)])).length) Slot.unset).toArray = ls at hl ⊢
  have hl : lv_has ls 1 [(0, .ref (ad 0))] := hl
  have hw0 := hts (.fieldLink RX4 274 "TrunkYards" "departed" "I") (List.mem_cons_of_mem _ (List.mem_of_getElem? (i := 0) rfl))
  have hiX4 : ∀ w ∈ wsX40, w ∈ wsX4_trains := fun w h => List.mem_cons_of_mem _ (List.mem_append_right _ h)
  unfold tyf_T_trains at hF
  refine lv_aload_n hx hb dX4_trains_0 rfl (lv_at hl 0 rfl) ?_
  refine va_get (D := D) (ci := 4) (v := .int (σ.2 1)) (C := RX4) (T := TX4) (N := 12) hx hb hts hiX4 hown hK hP 0 (wC_0 ad cA σ) rfl 9 (by decide) hw0 (fun _ h9 => h9) rfl dX4_trains_1 ?_
  exact g_iretR hx hb hr rfl hlocks hP hK hD hS dX4_trains_4 hF
