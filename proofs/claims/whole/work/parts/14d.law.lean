/-! ===== the law ===== -/
section LAW
variable {p : Program} {l : Launch} {e : Env} {s : State} {m : MethodId} {below : List Frame} {meth : Method} {c : Code} {b L : Nat} {xs : Nat → Int32} {D : va_G} {ad am : Nat → Nat} {cA cM : Nat → ClassId} {o : Nat} {cO : ClassId}
set_option maxHeartbeats 4000000 in
set_option maxRecDepth 100000 in
theorem law_case_22 (C : LawC p l s m meth c b L xs D cA cM cO) {k : Nat} (hk : 5 * k + 5 ≤ L) (ih : LoopAt p l e s m below meth c b D ad am cA cM o cO (k + 1)) {σ μ : tyS} {g : Nat → Int64} {H : Heap} {locs : List Loc} {ls : Array Slot} (hI : Inv k σ μ) (hP : va_P D vwCl (wH ad cA o cO σ g ++ wM am cM μ) H) (hD : va_D (fun q : Nat => s.heap.size ≤ q) (wH ad cA o cO σ g ++ wM am cM μ)) (hS : va_S (fun q : Nat => s.heap.size ≤ q) s.heap H locs) (hl : lv_has ls 7 [(0, .ref b), (1, .ref (ad 0)), (2, .ref (am 0)), (3, .ref o), (4, .int (nI (5 * k)))]) : W p l e room_1 s m #[Value.ref b] below meth c H locs (57 + k) (6494 + 6 * k) (lw_Z below #[Value.ref b] s) (F0 m 1596 ls []) := by
  obtain ⟨⟨hx, hb, hr, hml, hown0, hts0, hX, hbl, hlocks, hgv⟩, hl9, hOK, hNN, hNC, hCL, hK, hKM, hL⟩ := C
  have hown : s.vm.findClass RL = some m.cls := hown0
  have hts : ∀ w ∈ wsL_law, w.before #[Value.ref b] s = true := fun w h => hts0 w (wsL_law_in w h)
  have hS9 : CallFix p m c code 7 s #[.ref b] wsL_law RL := ⟨hx, hb, hml, hown, hts⟩
  have hA : ∀ q : Nat, s.heap.size ≤ q → (fun q : Nat => s.heap.size ≤ q) q := fun _ h => h
  have hbA : ¬ (fun q : Nat => s.heap.size ≤ q) b := Nat.not_le.mpr hbl
  obtain ⟨res, v, μ', eT, eM, ⟨kk, hkk, hth, hv⟩, hI'⟩ := op_setLines hI (by omega) (xs (5 * k + 1)) (xs (5 * k + 2))
  refine lv_aload_n hx hb dL_law_1596 rfl (lv_at hl 1 rfl) ?_
  refine gz_arg (i := 5 * k) (j := 1) hx hb hX hbl hbA hS (by omega) hL rfl dL_law_1597 dL_law_1598 dL_law_1600 dL_law_1601 dL_law_1602 (lv_at hl 0 rfl) (lv_at hl 4 rfl) ?_
  refine gz_arg (i := 5 * k) (j := 2) hx hb hX hbl hbA hS (by omega) hL rfl dL_law_1603 dL_law_1604 dL_law_1606 dL_law_1607 dL_law_1608 (lv_at hl 0 rfl) (lv_at hl 4 rfl) ?_
  refine lv_aload_n hx hb dL_law_1609 rfl (lv_at hl 3 rfl) ?_
  refine gz_H (As := [.ref (ad 0), .int (xs (5 * k + 1)), .int (xs (5 * k + 2)), .ref o]) (rest := []) hS9 (tyh_setLines l hl9 D ad cA o cO H.size σ g (xs (5 * k + 1)) (xs (5 * k + 2)) res kk eT hkk) (vx_cwSW 4 hts gL_law_L_setLines rfl rfl rfl hd_L_setLines ⟨by decide, by decide⟩) hK hP hD hS hA hNN hOK hNC hCL rfl hl.1 rfl (Nat.le_of_ble_eq_true rfl) dL_law_1610 ⟨by show _ ≤ 1114; omega, by show _ ≤ 14884; omega⟩ (fun g' H locs hg hP hD hS => ?_)
  refine lv_istore (lv' := [(5, .int (nI kk)), (0, .ref b), (1, .ref (ad 0)), (2, .ref (am 0)), (3, .ref o), (4, .int (nI (5 * k)))]) hx hb dL_law_1613 hl (by decide) rfl (fun ls hl => ?_)
  refine lv_aload_n hx hb dL_law_1615 rfl (lv_at hl 3 rfl) ?_
  refine gz_arg (i := 5 * k) (j := 1) hx hb hX hbl hbA hS (by omega) hL rfl dL_law_1616 dL_law_1617 dL_law_1619 dL_law_1620 dL_law_1621 (lv_at hl 1 rfl) (lv_at hl 5 rfl) ?_
  refine gz_arg (i := 5 * k) (j := 2) hx hb hX hbl hbA hS (by omega) hL rfl dL_law_1622 dL_law_1623 dL_law_1625 dL_law_1626 dL_law_1627 (lv_at hl 1 rfl) (lv_at hl 5 rfl) ?_
  refine gz_Mi (w := wM am cM) (As := [.int (xs (5 * k + 1)), .int (xs (5 * k + 2))]) (rest := []) hS9 (tyc_M_setLines l D am cM _ μ (xs (5 * k + 1)) (xs (5 * k + 2)) v μ' eM) (cwV 2 hts gL_law_X5_setLines rfl rfl rfl hd_X5_setLines ⟨by decide, by decide⟩) hKM hP.swp hD.swp hS hA hNN (ci := 5) (q0 := 0) (N := 30) rfl (wM_0 am cM μ) rfl hl.1 rfl (Nat.le_of_ble_eq_true rfl) dL_law_1628 ⟨by show _ ≤ 1114; omega, by show _ ≤ 14884; omega⟩ (fun H locs hP hD hS => ?_)
  refine lv_istore (lv' := [(6, .int v), (5, .int (nI kk)), (0, .ref b), (1, .ref (ad 0)), (2, .ref (am 0)), (3, .ref o), (4, .int (nI (5 * k)))]) hx hb dL_law_1631 hl (by decide) rfl (fun ls hl => ?_)
  refine lv_aload_n hx hb dL_law_1633 rfl (lv_at hl 4 rfl) ?_
  refine gz_Mi (w := wM am cM) (As := []) (rest := []) hS9 (tyc_M_thrown l D am cM _ μ' (μ'.2 0) rfl) (cwV 0 hts gL_law_X5_thrown rfl rfl rfl hd_X5_thrown ⟨by decide, by decide⟩) hKM hP hD hS hA hNN (ci := 5) (q0 := 0) (N := 30) rfl (wM_0 am cM μ') rfl hl.1 rfl (Nat.le_of_ble_eq_true rfl) dL_law_1634 ⟨by show _ ≤ 1114; omega, by show _ ≤ 14884; omega⟩ (fun H locs hP hD hS => ?_)
  refine lv_iload hx hb dL_law_1637 (lv_at hl 1 rfl) ?_
  refine lv_icmp_eq (tgt := 1644) hx hb dL_law_1639 (by decide) (fun _ => ?_) (fun c9 => absurd hth c9)
  refine lv_iload hx hb dL_law_1644 (lv_at hl 1 rfl) ?_
  refine lv_if_ne (tgt := 1661) hx hb dL_law_1646 (by decide) (fun _ => ?_) (fun c8 => ?_)
  · refine lv_goto (tgt := 2130) hx hb dL_law_1661 (by decide) ?_
    refine lv_iinc (v := nI (5 * (k + 1))) (lv' := [(4, .int (nI (5 * (k + 1)))), (6, .int v), (5, .int (nI kk)), (0, .ref b), (1, .ref (ad 0)), (2, .ref (am 0)), (3, .ref o)]) hx hb dL_law_2130 hl (k := 6) rfl (nI_add _ 5) (by decide) rfl (fun ls hl => ?_)
    refine lv_goto (tgt := 23) hx hb dL_law_2133 (by decide) ?_
    refine W.widen (k := 57 + (k + 1)) (n := 6494 + 6 * (k + 1)) (by omega) (by omega) ?_
    exact ih _ μ' g' _ _ _ hI' hP.swp hD.swp hS (lv_sub hl [3, 4, 5, 6, 0] rfl)
  · have h0 := nI_kk hkk (by decide) c8
    have hg := hg h0
    have hv := hv h0
    have hP2 := hP.swp
    refine lv_aload_n hx hb dL_law_1649 rfl (lv_at hl 5 rfl) ?_
    refine lv_iconst (v := 0) hx hb dL_law_1650 (by decide) ?_
    refine va_lald (f := g') hx hb hK hP2 32 26 rfl rfl vp_in_01 dL_law_1651 ?_
    rw [sb_cl0]
    refine lv_iload hx hb dL_law_1652 (lv_at hl 0 rfl) ?_
    refine lv_i2l (v := v.toInt64) hx hb dL_law_1654 rfl ?_
    refine W.lcmp hx hb dL_law_1655 ?_
    refine lv_if_eq (tgt := 1661) hx hb dL_law_1656 (by decide) (fun _ => ?_) (fun c7 => absurd ((lg_cmp_eq _ _).mpr (by rw [hg, hv])) c7)
    refine lv_goto (tgt := 2130) hx hb dL_law_1661 (by decide) ?_
    refine lv_iinc (v := nI (5 * (k + 1))) (lv' := [(4, .int (nI (5 * (k + 1)))), (6, .int v), (5, .int (nI kk)), (0, .ref b), (1, .ref (ad 0)), (2, .ref (am 0)), (3, .ref o)]) hx hb dL_law_2130 hl (k := 6) rfl (nI_add _ 5) (by decide) rfl (fun ls hl => ?_)
    refine lv_goto (tgt := 23) hx hb dL_law_2133 (by decide) ?_
    refine W.widen (k := 57 + (k + 1)) (n := 6494 + 6 * (k + 1)) (by omega) (by omega) ?_
    exact ih _ μ' g' _ _ _ hI' hP.swp hD.swp hS (lv_sub hl [3, 4, 5, 6, 0] rfl)
set_option maxHeartbeats 4000000 in
set_option maxRecDepth 100000 in
theorem law_case_23 (C : LawC p l s m meth c b L xs D cA cM cO) {k : Nat} (hk : 5 * k + 5 ≤ L) (ih : LoopAt p l e s m below meth c b D ad am cA cM o cO (k + 1)) {σ μ : tyS} {g : Nat → Int64} {H : Heap} {locs : List Loc} {ls : Array Slot} (hI : Inv k σ μ) (hP : va_P D vwCl (wH ad cA o cO σ g ++ wM am cM μ) H) (hD : va_D (fun q : Nat => s.heap.size ≤ q) (wH ad cA o cO σ g ++ wM am cM μ)) (hS : va_S (fun q : Nat => s.heap.size ≤ q) s.heap H locs) (hl : lv_has ls 7 [(0, .ref b), (1, .ref (ad 0)), (2, .ref (am 0)), (3, .ref o), (4, .int (nI (5 * k)))]) : W p l e room_1 s m #[Value.ref b] below meth c H locs (57 + k) (6494 + 6 * k) (lw_Z below #[Value.ref b] s) (F0 m 1664 ls []) := by
  obtain ⟨⟨hx, hb, hr, hml, hown0, hts0, hX, hbl, hlocks, hgv⟩, hl9, hOK, hNN, hNC, hCL, hK, hKM, hL⟩ := C
  have hown : s.vm.findClass RL = some m.cls := hown0
  have hts : ∀ w ∈ wsL_law, w.before #[Value.ref b] s = true := fun w h => hts0 w (wsL_law_in w h)
  have hS9 : CallFix p m c code 7 s #[.ref b] wsL_law RL := ⟨hx, hb, hml, hown, hts⟩
  have hA : ∀ q : Nat, s.heap.size ≤ q → (fun q : Nat => s.heap.size ≤ q) q := fun _ h => h
  have hbA : ¬ (fun q : Nat => s.heap.size ≤ q) b := Nat.not_le.mpr hbl
  obtain ⟨res, v, μ', eT, eM, ⟨kk, hkk, hth, hv⟩, hI'⟩ := op_pass hI (by omega) (xs (5 * k + 1))
  refine lv_aload_n hx hb dL_law_1664 rfl (lv_at hl 1 rfl) ?_
  refine gz_arg (i := 5 * k) (j := 1) hx hb hX hbl hbA hS (by omega) hL rfl dL_law_1665 dL_law_1666 dL_law_1668 dL_law_1669 dL_law_1670 (lv_at hl 0 rfl) (lv_at hl 4 rfl) ?_
  refine lv_aload_n hx hb dL_law_1671 rfl (lv_at hl 3 rfl) ?_
  refine gz_H (As := [.ref (ad 0), .int (xs (5 * k + 1)), .ref o]) (rest := []) hS9 (tyh_pass l hl9 D ad cA o cO H.size σ g (xs (5 * k + 1)) res kk eT hkk) (vx_cwSW 3 hts gL_law_L_pass rfl rfl rfl hd_L_pass ⟨by decide, by decide⟩) hK hP hD hS hA hNN hOK hNC hCL rfl hl.1 rfl (Nat.le_of_ble_eq_true rfl) dL_law_1672 ⟨by show _ ≤ 1114; omega, by show _ ≤ 14884; omega⟩ (fun g' H locs hg hP hD hS => ?_)
  refine lv_istore (lv' := [(5, .int (nI kk)), (0, .ref b), (1, .ref (ad 0)), (2, .ref (am 0)), (3, .ref o), (4, .int (nI (5 * k)))]) hx hb dL_law_1675 hl (by decide) rfl (fun ls hl => ?_)
  refine lv_aload_n hx hb dL_law_1677 rfl (lv_at hl 3 rfl) ?_
  refine gz_arg (i := 5 * k) (j := 1) hx hb hX hbl hbA hS (by omega) hL rfl dL_law_1678 dL_law_1679 dL_law_1681 dL_law_1682 dL_law_1683 (lv_at hl 1 rfl) (lv_at hl 5 rfl) ?_
  refine gz_Mi (w := wM am cM) (As := [.int (xs (5 * k + 1))]) (rest := []) hS9 (tyc_M_pass l D am cM _ μ (xs (5 * k + 1)) v μ' eM) (cwV 1 hts gL_law_X5_pass rfl rfl rfl hd_X5_pass ⟨by decide, by decide⟩) hKM hP.swp hD.swp hS hA hNN (ci := 5) (q0 := 0) (N := 30) rfl (wM_0 am cM μ) rfl hl.1 rfl (Nat.le_of_ble_eq_true rfl) dL_law_1684 ⟨by show _ ≤ 1114; omega, by show _ ≤ 14884; omega⟩ (fun H locs hP hD hS => ?_)
  refine lv_istore (lv' := [(6, .int v), (5, .int (nI kk)), (0, .ref b), (1, .ref (ad 0)), (2, .ref (am 0)), (3, .ref o), (4, .int (nI (5 * k)))]) hx hb dL_law_1687 hl (by decide) rfl (fun ls hl => ?_)
  refine lv_aload_n hx hb dL_law_1689 rfl (lv_at hl 4 rfl) ?_
  refine gz_Mi (w := wM am cM) (As := []) (rest := []) hS9 (tyc_M_thrown l D am cM _ μ' (μ'.2 0) rfl) (cwV 0 hts gL_law_X5_thrown rfl rfl rfl hd_X5_thrown ⟨by decide, by decide⟩) hKM hP hD hS hA hNN (ci := 5) (q0 := 0) (N := 30) rfl (wM_0 am cM μ') rfl hl.1 rfl (Nat.le_of_ble_eq_true rfl) dL_law_1690 ⟨by show _ ≤ 1114; omega, by show _ ≤ 14884; omega⟩ (fun H locs hP hD hS => ?_)
  refine lv_iload hx hb dL_law_1693 (lv_at hl 1 rfl) ?_
  refine lv_icmp_eq (tgt := 1700) hx hb dL_law_1695 (by decide) (fun _ => ?_) (fun c9 => absurd hth c9)
  refine lv_iload hx hb dL_law_1700 (lv_at hl 1 rfl) ?_
  refine lv_if_ne (tgt := 1717) hx hb dL_law_1702 (by decide) (fun _ => ?_) (fun c8 => ?_)
  · refine lv_goto (tgt := 2130) hx hb dL_law_1717 (by decide) ?_
    refine lv_iinc (v := nI (5 * (k + 1))) (lv' := [(4, .int (nI (5 * (k + 1)))), (6, .int v), (5, .int (nI kk)), (0, .ref b), (1, .ref (ad 0)), (2, .ref (am 0)), (3, .ref o)]) hx hb dL_law_2130 hl (k := 6) rfl (nI_add _ 5) (by decide) rfl (fun ls hl => ?_)
    refine lv_goto (tgt := 23) hx hb dL_law_2133 (by decide) ?_
    refine W.widen (k := 57 + (k + 1)) (n := 6494 + 6 * (k + 1)) (by omega) (by omega) ?_
    exact ih _ μ' g' _ _ _ hI' hP.swp hD.swp hS (lv_sub hl [3, 4, 5, 6, 0] rfl)
  · have h0 := nI_kk hkk (by decide) c8
    have hg := hg h0
    have hv := hv h0
    have hP2 := hP.swp
    refine lv_aload_n hx hb dL_law_1705 rfl (lv_at hl 5 rfl) ?_
    refine lv_iconst (v := 0) hx hb dL_law_1706 (by decide) ?_
    refine va_lald (f := g') hx hb hK hP2 32 26 rfl rfl vp_in_01 dL_law_1707 ?_
    rw [sb_cl0]
    refine lv_iload hx hb dL_law_1708 (lv_at hl 0 rfl) ?_
    refine lv_i2l (v := v.toInt64) hx hb dL_law_1710 rfl ?_
    refine W.lcmp hx hb dL_law_1711 ?_
    refine lv_if_eq (tgt := 1717) hx hb dL_law_1712 (by decide) (fun _ => ?_) (fun c7 => absurd ((lg_cmp_eq _ _).mpr (by rw [hg, hv])) c7)
    refine lv_goto (tgt := 2130) hx hb dL_law_1717 (by decide) ?_
    refine lv_iinc (v := nI (5 * (k + 1))) (lv' := [(4, .int (nI (5 * (k + 1)))), (6, .int v), (5, .int (nI kk)), (0, .ref b), (1, .ref (ad 0)), (2, .ref (am 0)), (3, .ref o)]) hx hb dL_law_2130 hl (k := 6) rfl (nI_add _ 5) (by decide) rfl (fun ls hl => ?_)
    refine lv_goto (tgt := 23) hx hb dL_law_2133 (by decide) ?_
    refine W.widen (k := 57 + (k + 1)) (n := 6494 + 6 * (k + 1)) (by omega) (by omega) ?_
    exact ih _ μ' g' _ _ _ hI' hP.swp hD.swp hS (lv_sub hl [3, 4, 5, 6, 0] rfl)
set_option maxHeartbeats 4000000 in
set_option maxRecDepth 100000 in
theorem law_case_24 (C : LawC p l s m meth c b L xs D cA cM cO) {k : Nat} (hk : 5 * k + 5 ≤ L) (ih : LoopAt p l e s m below meth c b D ad am cA cM o cO (k + 1)) {σ μ : tyS} {g : Nat → Int64} {H : Heap} {locs : List Loc} {ls : Array Slot} (hI : Inv k σ μ) (hP : va_P D vwCl (wH ad cA o cO σ g ++ wM am cM μ) H) (hD : va_D (fun q : Nat => s.heap.size ≤ q) (wH ad cA o cO σ g ++ wM am cM μ)) (hS : va_S (fun q : Nat => s.heap.size ≤ q) s.heap H locs) (hl : lv_has ls 7 [(0, .ref b), (1, .ref (ad 0)), (2, .ref (am 0)), (3, .ref o), (4, .int (nI (5 * k)))]) : W p l e room_1 s m #[Value.ref b] below meth c H locs (57 + k) (6494 + 6 * k) (lw_Z below #[Value.ref b] s) (F0 m 1720 ls []) := by
  obtain ⟨⟨hx, hb, hr, hml, hown0, hts0, hX, hbl, hlocks, hgv⟩, hl9, hOK, hNN, hNC, hCL, hK, hKM, hL⟩ := C
  have hown : s.vm.findClass RL = some m.cls := hown0
  have hts : ∀ w ∈ wsL_law, w.before #[Value.ref b] s = true := fun w h => hts0 w (wsL_law_in w h)
  have hS9 : CallFix p m c code 7 s #[.ref b] wsL_law RL := ⟨hx, hb, hml, hown, hts⟩
  have hA : ∀ q : Nat, s.heap.size ≤ q → (fun q : Nat => s.heap.size ≤ q) q := fun _ h => h
  have hbA : ¬ (fun q : Nat => s.heap.size ≤ q) b := Nat.not_le.mpr hbl
  obtain ⟨r, μ', eT, eM, hI'⟩ := op_bookings hI (by omega)
  have hP3 : va_P D vwCl (wC ad cA σ ++ (wO o cO g ++ wM am cM μ)) H := by rw [← List.append_assoc]; exact hP
  have hD3 : va_D (fun q : Nat => s.heap.size ≤ q) (wC ad cA σ ++ (wO o cO g ++ wM am cM μ)) := by rw [← List.append_assoc]; exact hD
  refine lv_aload_n hx hb dL_law_1720 rfl (lv_at hl 1 rfl) ?_
  refine gz_Mi (w := wC ad cA) (As := []) (rest := []) hS9 (tyc_T_bookings l D ad cA _ σ r eT) (cwV 0 hts gL_law_X4_bookings rfl rfl rfl hd_X4_bookings ⟨by decide, by decide⟩) (tH_C cA cO hK) hP3 hD3 hS hA hNN (ci := 4) (q0 := 0) (N := 12) rfl (wC_0 ad cA σ) rfl hl.1 rfl (Nat.le_of_ble_eq_true rfl) dL_law_1721 ⟨by show _ ≤ 1114; omega, by show _ ≤ 14884; omega⟩ (fun H locs hP3 hD3 hS => ?_)
  have hP : va_P D vwCl (wH ad cA o cO σ g ++ wM am cM μ) H := by unfold wH; rw [List.append_assoc]; exact hP3
  have hD : va_D (fun q : Nat => s.heap.size ≤ q) (wH ad cA o cO σ g ++ wM am cM μ) := by unfold wH; rw [List.append_assoc]; exact hD3
  refine lv_aload_n hx hb dL_law_1724 rfl (lv_at hl 2 rfl) ?_
  refine gz_Mi (w := wM am cM) (As := []) (rest := [.int r]) hS9 (tyc_M_bookings l D am cM _ μ r μ' eM) (cwV 0 hts gL_law_X5_bookings rfl rfl rfl hd_X5_bookings ⟨by decide, by decide⟩) hKM hP.swp hD.swp hS hA hNN (ci := 5) (q0 := 0) (N := 30) rfl (wM_0 am cM μ) rfl hl.1 rfl (Nat.le_of_ble_eq_true rfl) dL_law_1725 ⟨by show _ ≤ 1114; omega, by show _ ≤ 14884; omega⟩ (fun H locs hP hD hS => ?_)
  refine lv_icmp_eq (tgt := 2130) hx hb dL_law_1728 (by decide) (fun _ => ?_) (fun c9 => absurd rfl c9)
  refine lv_iinc (v := nI (5 * (k + 1))) (lv' := [(4, .int (nI (5 * (k + 1)))), (0, .ref b), (1, .ref (ad 0)), (2, .ref (am 0)), (3, .ref o)]) hx hb dL_law_2130 hl (k := 4) rfl (nI_add _ 5) (by decide) rfl (fun ls hl => ?_)
  refine lv_goto (tgt := 23) hx hb dL_law_2133 (by decide) ?_
  refine W.widen (k := 57 + (k + 1)) (n := 6494 + 6 * (k + 1)) (by omega) (by omega) ?_
  exact ih σ μ' g _ _ _ hI' hP.swp hD.swp hS (lv_sub hl [1, 2, 3, 4, 0] rfl)
set_option maxHeartbeats 4000000 in
set_option maxRecDepth 100000 in
theorem law_case_25 (C : LawC p l s m meth c b L xs D cA cM cO) {k : Nat} (hk : 5 * k + 5 ≤ L) (ih : LoopAt p l e s m below meth c b D ad am cA cM o cO (k + 1)) {σ μ : tyS} {g : Nat → Int64} {H : Heap} {locs : List Loc} {ls : Array Slot} (hI : Inv k σ μ) (hP : va_P D vwCl (wH ad cA o cO σ g ++ wM am cM μ) H) (hD : va_D (fun q : Nat => s.heap.size ≤ q) (wH ad cA o cO σ g ++ wM am cM μ)) (hS : va_S (fun q : Nat => s.heap.size ≤ q) s.heap H locs) (hl : lv_has ls 7 [(0, .ref b), (1, .ref (ad 0)), (2, .ref (am 0)), (3, .ref o), (4, .int (nI (5 * k)))]) : W p l e room_1 s m #[Value.ref b] below meth c H locs (57 + k) (6494 + 6 * k) (lw_Z below #[Value.ref b] s) (F0 m 1733 ls []) := by
  obtain ⟨⟨hx, hb, hr, hml, hown0, hts0, hX, hbl, hlocks, hgv⟩, hl9, hOK, hNN, hNC, hCL, hK, hKM, hL⟩ := C
  have hown : s.vm.findClass RL = some m.cls := hown0
  have hts : ∀ w ∈ wsL_law, w.before #[Value.ref b] s = true := fun w h => hts0 w (wsL_law_in w h)
  have hS9 : CallFix p m c code 7 s #[.ref b] wsL_law RL := ⟨hx, hb, hml, hown, hts⟩
  have hA : ∀ q : Nat, s.heap.size ≤ q → (fun q : Nat => s.heap.size ≤ q) q := fun _ h => h
  have hbA : ¬ (fun q : Nat => s.heap.size ≤ q) b := Nat.not_le.mpr hbl
  obtain ⟨res, v, μ', eT, eM, ⟨kk, hkk, hth, hv⟩, hI'⟩ := op_state hI (by omega) (xs (5 * k + 1))
  refine lv_aload_n hx hb dL_law_1733 rfl (lv_at hl 1 rfl) ?_
  refine gz_arg (i := 5 * k) (j := 1) hx hb hX hbl hbA hS (by omega) hL rfl dL_law_1734 dL_law_1735 dL_law_1737 dL_law_1738 dL_law_1739 (lv_at hl 0 rfl) (lv_at hl 4 rfl) ?_
  refine lv_aload_n hx hb dL_law_1740 rfl (lv_at hl 3 rfl) ?_
  refine gz_H (As := [.ref (ad 0), .int (xs (5 * k + 1)), .ref o]) (rest := []) hS9 (tyh_state l hl9 D ad cA o cO H.size σ g (xs (5 * k + 1)) res kk eT hkk) (vx_cwSW 3 hts gL_law_L_state rfl rfl rfl hd_L_state ⟨by decide, by decide⟩) hK hP hD hS hA hNN hOK hNC hCL rfl hl.1 rfl (Nat.le_of_ble_eq_true rfl) dL_law_1741 ⟨by show _ ≤ 1114; omega, by show _ ≤ 14884; omega⟩ (fun g' H locs hg hP hD hS => ?_)
  refine lv_istore (lv' := [(5, .int (nI kk)), (0, .ref b), (1, .ref (ad 0)), (2, .ref (am 0)), (3, .ref o), (4, .int (nI (5 * k)))]) hx hb dL_law_1744 hl (by decide) rfl (fun ls hl => ?_)
  refine lv_aload_n hx hb dL_law_1746 rfl (lv_at hl 3 rfl) ?_
  refine gz_arg (i := 5 * k) (j := 1) hx hb hX hbl hbA hS (by omega) hL rfl dL_law_1747 dL_law_1748 dL_law_1750 dL_law_1751 dL_law_1752 (lv_at hl 1 rfl) (lv_at hl 5 rfl) ?_
  refine gz_Mi (w := wM am cM) (As := [.int (xs (5 * k + 1))]) (rest := []) hS9 (tyc_M_state l D am cM _ μ (xs (5 * k + 1)) v μ' eM) (cwV 1 hts gL_law_X5_state rfl rfl rfl hd_X5_state ⟨by decide, by decide⟩) hKM hP.swp hD.swp hS hA hNN (ci := 5) (q0 := 0) (N := 30) rfl (wM_0 am cM μ) rfl hl.1 rfl (Nat.le_of_ble_eq_true rfl) dL_law_1753 ⟨by show _ ≤ 1114; omega, by show _ ≤ 14884; omega⟩ (fun H locs hP hD hS => ?_)
  refine lv_istore (lv' := [(6, .int v), (5, .int (nI kk)), (0, .ref b), (1, .ref (ad 0)), (2, .ref (am 0)), (3, .ref o), (4, .int (nI (5 * k)))]) hx hb dL_law_1756 hl (by decide) rfl (fun ls hl => ?_)
  refine lv_aload_n hx hb dL_law_1758 rfl (lv_at hl 4 rfl) ?_
  refine gz_Mi (w := wM am cM) (As := []) (rest := []) hS9 (tyc_M_thrown l D am cM _ μ' (μ'.2 0) rfl) (cwV 0 hts gL_law_X5_thrown rfl rfl rfl hd_X5_thrown ⟨by decide, by decide⟩) hKM hP hD hS hA hNN (ci := 5) (q0 := 0) (N := 30) rfl (wM_0 am cM μ') rfl hl.1 rfl (Nat.le_of_ble_eq_true rfl) dL_law_1759 ⟨by show _ ≤ 1114; omega, by show _ ≤ 14884; omega⟩ (fun H locs hP hD hS => ?_)
  refine lv_iload hx hb dL_law_1762 (lv_at hl 1 rfl) ?_
  refine lv_icmp_eq (tgt := 1769) hx hb dL_law_1764 (by decide) (fun _ => ?_) (fun c9 => absurd hth c9)
  refine lv_iload hx hb dL_law_1769 (lv_at hl 1 rfl) ?_
  refine lv_if_ne (tgt := 1786) hx hb dL_law_1771 (by decide) (fun _ => ?_) (fun c8 => ?_)
  · refine lv_goto (tgt := 2130) hx hb dL_law_1786 (by decide) ?_
    refine lv_iinc (v := nI (5 * (k + 1))) (lv' := [(4, .int (nI (5 * (k + 1)))), (6, .int v), (5, .int (nI kk)), (0, .ref b), (1, .ref (ad 0)), (2, .ref (am 0)), (3, .ref o)]) hx hb dL_law_2130 hl (k := 6) rfl (nI_add _ 5) (by decide) rfl (fun ls hl => ?_)
    refine lv_goto (tgt := 23) hx hb dL_law_2133 (by decide) ?_
    refine W.widen (k := 57 + (k + 1)) (n := 6494 + 6 * (k + 1)) (by omega) (by omega) ?_
    exact ih _ μ' g' _ _ _ hI' hP.swp hD.swp hS (lv_sub hl [3, 4, 5, 6, 0] rfl)
  · have h0 := nI_kk hkk (by decide) c8
    have hg := hg h0
    have hv := hv h0
    have hP2 := hP.swp
    refine lv_aload_n hx hb dL_law_1774 rfl (lv_at hl 5 rfl) ?_
    refine lv_iconst (v := 0) hx hb dL_law_1775 (by decide) ?_
    refine va_lald (f := g') hx hb hK hP2 32 26 rfl rfl vp_in_01 dL_law_1776 ?_
    rw [sb_cl0]
    refine lv_iload hx hb dL_law_1777 (lv_at hl 0 rfl) ?_
    refine lv_i2l (v := v.toInt64) hx hb dL_law_1779 rfl ?_
    refine W.lcmp hx hb dL_law_1780 ?_
    refine lv_if_eq (tgt := 1786) hx hb dL_law_1781 (by decide) (fun _ => ?_) (fun c7 => absurd ((lg_cmp_eq _ _).mpr (by rw [hg, hv])) c7)
    refine lv_goto (tgt := 2130) hx hb dL_law_1786 (by decide) ?_
    refine lv_iinc (v := nI (5 * (k + 1))) (lv' := [(4, .int (nI (5 * (k + 1)))), (6, .int v), (5, .int (nI kk)), (0, .ref b), (1, .ref (ad 0)), (2, .ref (am 0)), (3, .ref o)]) hx hb dL_law_2130 hl (k := 6) rfl (nI_add _ 5) (by decide) rfl (fun ls hl => ?_)
    refine lv_goto (tgt := 23) hx hb dL_law_2133 (by decide) ?_
    refine W.widen (k := 57 + (k + 1)) (n := 6494 + 6 * (k + 1)) (by omega) (by omega) ?_
    exact ih _ μ' g' _ _ _ hI' hP.swp hD.swp hS (lv_sub hl [3, 4, 5, 6, 0] rfl)
set_option maxHeartbeats 4000000 in
set_option maxRecDepth 100000 in
theorem law_case_26 (C : LawC p l s m meth c b L xs D cA cM cO) {k : Nat} (hk : 5 * k + 5 ≤ L) (ih : LoopAt p l e s m below meth c b D ad am cA cM o cO (k + 1)) {σ μ : tyS} {g : Nat → Int64} {H : Heap} {locs : List Loc} {ls : Array Slot} (hI : Inv k σ μ) (hP : va_P D vwCl (wH ad cA o cO σ g ++ wM am cM μ) H) (hD : va_D (fun q : Nat => s.heap.size ≤ q) (wH ad cA o cO σ g ++ wM am cM μ)) (hS : va_S (fun q : Nat => s.heap.size ≤ q) s.heap H locs) (hl : lv_has ls 7 [(0, .ref b), (1, .ref (ad 0)), (2, .ref (am 0)), (3, .ref o), (4, .int (nI (5 * k)))]) : W p l e room_1 s m #[Value.ref b] below meth c H locs (57 + k) (6494 + 6 * k) (lw_Z below #[Value.ref b] s) (F0 m 1789 ls []) := by
  obtain ⟨⟨hx, hb, hr, hml, hown0, hts0, hX, hbl, hlocks, hgv⟩, hl9, hOK, hNN, hNC, hCL, hK, hKM, hL⟩ := C
  have hown : s.vm.findClass RL = some m.cls := hown0
  have hts : ∀ w ∈ wsL_law, w.before #[Value.ref b] s = true := fun w h => hts0 w (wsL_law_in w h)
  have hS9 : CallFix p m c code 7 s #[.ref b] wsL_law RL := ⟨hx, hb, hml, hown, hts⟩
  have hA : ∀ q : Nat, s.heap.size ≤ q → (fun q : Nat => s.heap.size ≤ q) q := fun _ h => h
  have hbA : ¬ (fun q : Nat => s.heap.size ≤ q) b := Nat.not_le.mpr hbl
  obtain ⟨res, v, μ', eT, eM, ⟨kk, hkk, hth, hv⟩, hI'⟩ := op_wagons hI (by omega) (xs (5 * k + 1))
  refine lv_aload_n hx hb dL_law_1789 rfl (lv_at hl 1 rfl) ?_
  refine gz_arg (i := 5 * k) (j := 1) hx hb hX hbl hbA hS (by omega) hL rfl dL_law_1790 dL_law_1791 dL_law_1793 dL_law_1794 dL_law_1795 (lv_at hl 0 rfl) (lv_at hl 4 rfl) ?_
  refine lv_aload_n hx hb dL_law_1796 rfl (lv_at hl 3 rfl) ?_
  refine gz_H (As := [.ref (ad 0), .int (xs (5 * k + 1)), .ref o]) (rest := []) hS9 (tyh_wagons l hl9 D ad cA o cO H.size σ g (xs (5 * k + 1)) res kk eT hkk) (vx_cwSW 3 hts gL_law_L_wagons rfl rfl rfl hd_L_wagons ⟨by decide, by decide⟩) hK hP hD hS hA hNN hOK hNC hCL rfl hl.1 rfl (Nat.le_of_ble_eq_true rfl) dL_law_1797 ⟨by show _ ≤ 1114; omega, by show _ ≤ 14884; omega⟩ (fun g' H locs hg hP hD hS => ?_)
  refine lv_istore (lv' := [(5, .int (nI kk)), (0, .ref b), (1, .ref (ad 0)), (2, .ref (am 0)), (3, .ref o), (4, .int (nI (5 * k)))]) hx hb dL_law_1800 hl (by decide) rfl (fun ls hl => ?_)
  refine lv_aload_n hx hb dL_law_1802 rfl (lv_at hl 3 rfl) ?_
  refine gz_arg (i := 5 * k) (j := 1) hx hb hX hbl hbA hS (by omega) hL rfl dL_law_1803 dL_law_1804 dL_law_1806 dL_law_1807 dL_law_1808 (lv_at hl 1 rfl) (lv_at hl 5 rfl) ?_
  refine gz_Mi (w := wM am cM) (As := [.int (xs (5 * k + 1))]) (rest := []) hS9 (tyc_M_wagons l D am cM _ μ (xs (5 * k + 1)) v μ' eM) (cwV 1 hts gL_law_X5_wagons rfl rfl rfl hd_X5_wagons ⟨by decide, by decide⟩) hKM hP.swp hD.swp hS hA hNN (ci := 5) (q0 := 0) (N := 30) rfl (wM_0 am cM μ) rfl hl.1 rfl (Nat.le_of_ble_eq_true rfl) dL_law_1809 ⟨by show _ ≤ 1114; omega, by show _ ≤ 14884; omega⟩ (fun H locs hP hD hS => ?_)
  refine lv_istore (lv' := [(6, .int v), (5, .int (nI kk)), (0, .ref b), (1, .ref (ad 0)), (2, .ref (am 0)), (3, .ref o), (4, .int (nI (5 * k)))]) hx hb dL_law_1812 hl (by decide) rfl (fun ls hl => ?_)
  refine lv_aload_n hx hb dL_law_1814 rfl (lv_at hl 4 rfl) ?_
  refine gz_Mi (w := wM am cM) (As := []) (rest := []) hS9 (tyc_M_thrown l D am cM _ μ' (μ'.2 0) rfl) (cwV 0 hts gL_law_X5_thrown rfl rfl rfl hd_X5_thrown ⟨by decide, by decide⟩) hKM hP hD hS hA hNN (ci := 5) (q0 := 0) (N := 30) rfl (wM_0 am cM μ') rfl hl.1 rfl (Nat.le_of_ble_eq_true rfl) dL_law_1815 ⟨by show _ ≤ 1114; omega, by show _ ≤ 14884; omega⟩ (fun H locs hP hD hS => ?_)
  refine lv_iload hx hb dL_law_1818 (lv_at hl 1 rfl) ?_
  refine lv_icmp_eq (tgt := 1825) hx hb dL_law_1820 (by decide) (fun _ => ?_) (fun c9 => absurd hth c9)
  refine lv_iload hx hb dL_law_1825 (lv_at hl 1 rfl) ?_
  refine lv_if_ne (tgt := 1842) hx hb dL_law_1827 (by decide) (fun _ => ?_) (fun c8 => ?_)
  · refine lv_goto (tgt := 2130) hx hb dL_law_1842 (by decide) ?_
    refine lv_iinc (v := nI (5 * (k + 1))) (lv' := [(4, .int (nI (5 * (k + 1)))), (6, .int v), (5, .int (nI kk)), (0, .ref b), (1, .ref (ad 0)), (2, .ref (am 0)), (3, .ref o)]) hx hb dL_law_2130 hl (k := 6) rfl (nI_add _ 5) (by decide) rfl (fun ls hl => ?_)
    refine lv_goto (tgt := 23) hx hb dL_law_2133 (by decide) ?_
    refine W.widen (k := 57 + (k + 1)) (n := 6494 + 6 * (k + 1)) (by omega) (by omega) ?_
    exact ih _ μ' g' _ _ _ hI' hP.swp hD.swp hS (lv_sub hl [3, 4, 5, 6, 0] rfl)
  · have h0 := nI_kk hkk (by decide) c8
    have hg := hg h0
    have hv := hv h0
    have hP2 := hP.swp
    refine lv_aload_n hx hb dL_law_1830 rfl (lv_at hl 5 rfl) ?_
    refine lv_iconst (v := 0) hx hb dL_law_1831 (by decide) ?_
    refine va_lald (f := g') hx hb hK hP2 32 26 rfl rfl vp_in_01 dL_law_1832 ?_
    rw [sb_cl0]
    refine lv_iload hx hb dL_law_1833 (lv_at hl 0 rfl) ?_
    refine lv_i2l (v := v.toInt64) hx hb dL_law_1835 rfl ?_
    refine W.lcmp hx hb dL_law_1836 ?_
    refine lv_if_eq (tgt := 1842) hx hb dL_law_1837 (by decide) (fun _ => ?_) (fun c7 => absurd ((lg_cmp_eq _ _).mpr (by rw [hg, hv])) c7)
    refine lv_goto (tgt := 2130) hx hb dL_law_1842 (by decide) ?_
    refine lv_iinc (v := nI (5 * (k + 1))) (lv' := [(4, .int (nI (5 * (k + 1)))), (6, .int v), (5, .int (nI kk)), (0, .ref b), (1, .ref (ad 0)), (2, .ref (am 0)), (3, .ref o)]) hx hb dL_law_2130 hl (k := 6) rfl (nI_add _ 5) (by decide) rfl (fun ls hl => ?_)
    refine lv_goto (tgt := 23) hx hb dL_law_2133 (by decide) ?_
    refine W.widen (k := 57 + (k + 1)) (n := 6494 + 6 * (k + 1)) (by omega) (by omega) ?_
    exact ih _ μ' g' _ _ _ hI' hP.swp hD.swp hS (lv_sub hl [3, 4, 5, 6, 0] rfl)
set_option maxHeartbeats 4000000 in
set_option maxRecDepth 100000 in
theorem law_case_27 (C : LawC p l s m meth c b L xs D cA cM cO) {k : Nat} (hk : 5 * k + 5 ≤ L) (ih : LoopAt p l e s m below meth c b D ad am cA cM o cO (k + 1)) {σ μ : tyS} {g : Nat → Int64} {H : Heap} {locs : List Loc} {ls : Array Slot} (hI : Inv k σ μ) (hP : va_P D vwCl (wH ad cA o cO σ g ++ wM am cM μ) H) (hD : va_D (fun q : Nat => s.heap.size ≤ q) (wH ad cA o cO σ g ++ wM am cM μ)) (hS : va_S (fun q : Nat => s.heap.size ≤ q) s.heap H locs) (hl : lv_has ls 7 [(0, .ref b), (1, .ref (ad 0)), (2, .ref (am 0)), (3, .ref o), (4, .int (nI (5 * k)))]) : W p l e room_1 s m #[Value.ref b] below meth c H locs (57 + k) (6494 + 6 * k) (lw_Z below #[Value.ref b] s) (F0 m 1845 ls []) := by
  obtain ⟨⟨hx, hb, hr, hml, hown0, hts0, hX, hbl, hlocks, hgv⟩, hl9, hOK, hNN, hNC, hCL, hK, hKM, hL⟩ := C
  have hown : s.vm.findClass RL = some m.cls := hown0
  have hts : ∀ w ∈ wsL_law, w.before #[Value.ref b] s = true := fun w h => hts0 w (wsL_law_in w h)
  have hS9 : CallFix p m c code 7 s #[.ref b] wsL_law RL := ⟨hx, hb, hml, hown, hts⟩
  have hA : ∀ q : Nat, s.heap.size ≤ q → (fun q : Nat => s.heap.size ≤ q) q := fun _ h => h
  have hbA : ¬ (fun q : Nat => s.heap.size ≤ q) b := Nat.not_le.mpr hbl
  obtain ⟨res, v, μ', eT, eM, ⟨kk, hkk, hth, hv⟩, hI'⟩ := op_wagonOf hI (by omega) (xs (5 * k + 1)) (xs (5 * k + 2))
  refine lv_aload_n hx hb dL_law_1845 rfl (lv_at hl 1 rfl) ?_
  refine gz_arg (i := 5 * k) (j := 1) hx hb hX hbl hbA hS (by omega) hL rfl dL_law_1846 dL_law_1847 dL_law_1849 dL_law_1850 dL_law_1851 (lv_at hl 0 rfl) (lv_at hl 4 rfl) ?_
  refine gz_arg (i := 5 * k) (j := 2) hx hb hX hbl hbA hS (by omega) hL rfl dL_law_1852 dL_law_1853 dL_law_1855 dL_law_1856 dL_law_1857 (lv_at hl 0 rfl) (lv_at hl 4 rfl) ?_
  refine lv_aload_n hx hb dL_law_1858 rfl (lv_at hl 3 rfl) ?_
  refine gz_H (As := [.ref (ad 0), .int (xs (5 * k + 1)), .int (xs (5 * k + 2)), .ref o]) (rest := []) hS9 (tyh_wagonOf l hl9 D ad cA o cO H.size σ g (xs (5 * k + 1)) (xs (5 * k + 2)) res kk eT hkk) (vx_cwSW 4 hts gL_law_L_wagonOf rfl rfl rfl hd_L_wagonOf ⟨by decide, by decide⟩) hK hP hD hS hA hNN hOK hNC hCL rfl hl.1 rfl (Nat.le_of_ble_eq_true rfl) dL_law_1859 ⟨by show _ ≤ 1114; omega, by show _ ≤ 14884; omega⟩ (fun g' H locs hg hP hD hS => ?_)
  refine lv_istore (lv' := [(5, .int (nI kk)), (0, .ref b), (1, .ref (ad 0)), (2, .ref (am 0)), (3, .ref o), (4, .int (nI (5 * k)))]) hx hb dL_law_1862 hl (by decide) rfl (fun ls hl => ?_)
  refine lv_aload_n hx hb dL_law_1864 rfl (lv_at hl 3 rfl) ?_
  refine gz_arg (i := 5 * k) (j := 1) hx hb hX hbl hbA hS (by omega) hL rfl dL_law_1865 dL_law_1866 dL_law_1868 dL_law_1869 dL_law_1870 (lv_at hl 1 rfl) (lv_at hl 5 rfl) ?_
  refine gz_arg (i := 5 * k) (j := 2) hx hb hX hbl hbA hS (by omega) hL rfl dL_law_1871 dL_law_1872 dL_law_1874 dL_law_1875 dL_law_1876 (lv_at hl 1 rfl) (lv_at hl 5 rfl) ?_
  refine gz_Mi (w := wM am cM) (As := [.int (xs (5 * k + 1)), .int (xs (5 * k + 2))]) (rest := []) hS9 (tyc_M_wagonOf l D am cM _ μ (xs (5 * k + 1)) (xs (5 * k + 2)) v μ' eM) (cwV 2 hts gL_law_X5_wagonOf rfl rfl rfl hd_X5_wagonOf ⟨by decide, by decide⟩) hKM hP.swp hD.swp hS hA hNN (ci := 5) (q0 := 0) (N := 30) rfl (wM_0 am cM μ) rfl hl.1 rfl (Nat.le_of_ble_eq_true rfl) dL_law_1877 ⟨by show _ ≤ 1114; omega, by show _ ≤ 14884; omega⟩ (fun H locs hP hD hS => ?_)
  refine lv_istore (lv' := [(6, .int v), (5, .int (nI kk)), (0, .ref b), (1, .ref (ad 0)), (2, .ref (am 0)), (3, .ref o), (4, .int (nI (5 * k)))]) hx hb dL_law_1880 hl (by decide) rfl (fun ls hl => ?_)
  refine lv_aload_n hx hb dL_law_1882 rfl (lv_at hl 4 rfl) ?_
  refine gz_Mi (w := wM am cM) (As := []) (rest := []) hS9 (tyc_M_thrown l D am cM _ μ' (μ'.2 0) rfl) (cwV 0 hts gL_law_X5_thrown rfl rfl rfl hd_X5_thrown ⟨by decide, by decide⟩) hKM hP hD hS hA hNN (ci := 5) (q0 := 0) (N := 30) rfl (wM_0 am cM μ') rfl hl.1 rfl (Nat.le_of_ble_eq_true rfl) dL_law_1883 ⟨by show _ ≤ 1114; omega, by show _ ≤ 14884; omega⟩ (fun H locs hP hD hS => ?_)
  refine lv_iload hx hb dL_law_1886 (lv_at hl 1 rfl) ?_
  refine lv_icmp_eq (tgt := 1893) hx hb dL_law_1888 (by decide) (fun _ => ?_) (fun c9 => absurd hth c9)
  refine lv_iload hx hb dL_law_1893 (lv_at hl 1 rfl) ?_
  refine lv_if_ne (tgt := 1910) hx hb dL_law_1895 (by decide) (fun _ => ?_) (fun c8 => ?_)
  · refine lv_goto (tgt := 2130) hx hb dL_law_1910 (by decide) ?_
    refine lv_iinc (v := nI (5 * (k + 1))) (lv' := [(4, .int (nI (5 * (k + 1)))), (6, .int v), (5, .int (nI kk)), (0, .ref b), (1, .ref (ad 0)), (2, .ref (am 0)), (3, .ref o)]) hx hb dL_law_2130 hl (k := 6) rfl (nI_add _ 5) (by decide) rfl (fun ls hl => ?_)
    refine lv_goto (tgt := 23) hx hb dL_law_2133 (by decide) ?_
    refine W.widen (k := 57 + (k + 1)) (n := 6494 + 6 * (k + 1)) (by omega) (by omega) ?_
    exact ih _ μ' g' _ _ _ hI' hP.swp hD.swp hS (lv_sub hl [3, 4, 5, 6, 0] rfl)
  · have h0 := nI_kk hkk (by decide) c8
    have hg := hg h0
    have hv := hv h0
    have hP2 := hP.swp
    refine lv_aload_n hx hb dL_law_1898 rfl (lv_at hl 5 rfl) ?_
    refine lv_iconst (v := 0) hx hb dL_law_1899 (by decide) ?_
    refine va_lald (f := g') hx hb hK hP2 32 26 rfl rfl vp_in_01 dL_law_1900 ?_
    rw [sb_cl0]
    refine lv_iload hx hb dL_law_1901 (lv_at hl 0 rfl) ?_
    refine lv_i2l (v := v.toInt64) hx hb dL_law_1903 rfl ?_
    refine W.lcmp hx hb dL_law_1904 ?_
    refine lv_if_eq (tgt := 1910) hx hb dL_law_1905 (by decide) (fun _ => ?_) (fun c7 => absurd ((lg_cmp_eq _ _).mpr (by rw [hg, hv])) c7)
    refine lv_goto (tgt := 2130) hx hb dL_law_1910 (by decide) ?_
    refine lv_iinc (v := nI (5 * (k + 1))) (lv' := [(4, .int (nI (5 * (k + 1)))), (6, .int v), (5, .int (nI kk)), (0, .ref b), (1, .ref (ad 0)), (2, .ref (am 0)), (3, .ref o)]) hx hb dL_law_2130 hl (k := 6) rfl (nI_add _ 5) (by decide) rfl (fun ls hl => ?_)
    refine lv_goto (tgt := 23) hx hb dL_law_2133 (by decide) ?_
    refine W.widen (k := 57 + (k + 1)) (n := 6494 + 6 * (k + 1)) (by omega) (by omega) ?_
    exact ih _ μ' g' _ _ _ hI' hP.swp hD.swp hS (lv_sub hl [3, 4, 5, 6, 0] rfl)
set_option maxHeartbeats 4000000 in
set_option maxRecDepth 100000 in
theorem law_case_28 (C : LawC p l s m meth c b L xs D cA cM cO) {k : Nat} (hk : 5 * k + 5 ≤ L) (ih : LoopAt p l e s m below meth c b D ad am cA cM o cO (k + 1)) {σ μ : tyS} {g : Nat → Int64} {H : Heap} {locs : List Loc} {ls : Array Slot} (hI : Inv k σ μ) (hP : va_P D vwCl (wH ad cA o cO σ g ++ wM am cM μ) H) (hD : va_D (fun q : Nat => s.heap.size ≤ q) (wH ad cA o cO σ g ++ wM am cM μ)) (hS : va_S (fun q : Nat => s.heap.size ≤ q) s.heap H locs) (hl : lv_has ls 7 [(0, .ref b), (1, .ref (ad 0)), (2, .ref (am 0)), (3, .ref o), (4, .int (nI (5 * k)))]) : W p l e room_1 s m #[Value.ref b] below meth c H locs (57 + k) (6494 + 6 * k) (lw_Z below #[Value.ref b] s) (F0 m 1913 ls []) := by
  obtain ⟨⟨hx, hb, hr, hml, hown0, hts0, hX, hbl, hlocks, hgv⟩, hl9, hOK, hNN, hNC, hCL, hK, hKM, hL⟩ := C
  have hown : s.vm.findClass RL = some m.cls := hown0
  have hts : ∀ w ∈ wsL_law, w.before #[Value.ref b] s = true := fun w h => hts0 w (wsL_law_in w h)
  have hS9 : CallFix p m c code 7 s #[.ref b] wsL_law RL := ⟨hx, hb, hml, hown, hts⟩
  have hA : ∀ q : Nat, s.heap.size ≤ q → (fun q : Nat => s.heap.size ≤ q) q := fun _ h => h
  have hbA : ¬ (fun q : Nat => s.heap.size ≤ q) b := Nat.not_le.mpr hbl
  obtain ⟨res, v, μ', eT, eM, ⟨kk, hkk, hth, hv⟩, hI'⟩ := op_lapses hI (by omega) (xs (5 * k + 1))
  refine lv_aload_n hx hb dL_law_1913 rfl (lv_at hl 1 rfl) ?_
  refine gz_arg (i := 5 * k) (j := 1) hx hb hX hbl hbA hS (by omega) hL rfl dL_law_1914 dL_law_1915 dL_law_1917 dL_law_1918 dL_law_1919 (lv_at hl 0 rfl) (lv_at hl 4 rfl) ?_
  refine lv_aload_n hx hb dL_law_1920 rfl (lv_at hl 3 rfl) ?_
  refine gz_H (As := [.ref (ad 0), .int (xs (5 * k + 1)), .ref o]) (rest := []) hS9 (tyh_lapses l hl9 D ad cA o cO H.size σ g (xs (5 * k + 1)) res kk eT hkk) (vx_cwSW 3 hts gL_law_L_lapses rfl rfl rfl hd_L_lapses ⟨by decide, by decide⟩) hK hP hD hS hA hNN hOK hNC hCL rfl hl.1 rfl (Nat.le_of_ble_eq_true rfl) dL_law_1921 ⟨by show _ ≤ 1114; omega, by show _ ≤ 14884; omega⟩ (fun g' H locs hg hP hD hS => ?_)
  refine lv_istore (lv' := [(5, .int (nI kk)), (0, .ref b), (1, .ref (ad 0)), (2, .ref (am 0)), (3, .ref o), (4, .int (nI (5 * k)))]) hx hb dL_law_1924 hl (by decide) rfl (fun ls hl => ?_)
  refine lv_aload_n hx hb dL_law_1926 rfl (lv_at hl 3 rfl) ?_
  refine gz_arg (i := 5 * k) (j := 1) hx hb hX hbl hbA hS (by omega) hL rfl dL_law_1927 dL_law_1928 dL_law_1930 dL_law_1931 dL_law_1932 (lv_at hl 1 rfl) (lv_at hl 5 rfl) ?_
  refine gz_Mi (w := wM am cM) (As := [.int (xs (5 * k + 1))]) (rest := []) hS9 (tyc_M_lapses l D am cM _ μ (xs (5 * k + 1)) v μ' eM) (cwV 1 hts gL_law_X5_lapses rfl rfl rfl hd_X5_lapses ⟨by decide, by decide⟩) hKM hP.swp hD.swp hS hA hNN (ci := 5) (q0 := 0) (N := 30) rfl (wM_0 am cM μ) rfl hl.1 rfl (Nat.le_of_ble_eq_true rfl) dL_law_1933 ⟨by show _ ≤ 1114; omega, by show _ ≤ 14884; omega⟩ (fun H locs hP hD hS => ?_)
  refine lv_istore (lv' := [(6, .int v), (5, .int (nI kk)), (0, .ref b), (1, .ref (ad 0)), (2, .ref (am 0)), (3, .ref o), (4, .int (nI (5 * k)))]) hx hb dL_law_1936 hl (by decide) rfl (fun ls hl => ?_)
  refine lv_aload_n hx hb dL_law_1938 rfl (lv_at hl 4 rfl) ?_
  refine gz_Mi (w := wM am cM) (As := []) (rest := []) hS9 (tyc_M_thrown l D am cM _ μ' (μ'.2 0) rfl) (cwV 0 hts gL_law_X5_thrown rfl rfl rfl hd_X5_thrown ⟨by decide, by decide⟩) hKM hP hD hS hA hNN (ci := 5) (q0 := 0) (N := 30) rfl (wM_0 am cM μ') rfl hl.1 rfl (Nat.le_of_ble_eq_true rfl) dL_law_1939 ⟨by show _ ≤ 1114; omega, by show _ ≤ 14884; omega⟩ (fun H locs hP hD hS => ?_)
  refine lv_iload hx hb dL_law_1942 (lv_at hl 1 rfl) ?_
  refine lv_icmp_eq (tgt := 1949) hx hb dL_law_1944 (by decide) (fun _ => ?_) (fun c9 => absurd hth c9)
  refine lv_iload hx hb dL_law_1949 (lv_at hl 1 rfl) ?_
  refine lv_if_ne (tgt := 1966) hx hb dL_law_1951 (by decide) (fun _ => ?_) (fun c8 => ?_)
  · refine lv_goto (tgt := 2130) hx hb dL_law_1966 (by decide) ?_
    refine lv_iinc (v := nI (5 * (k + 1))) (lv' := [(4, .int (nI (5 * (k + 1)))), (6, .int v), (5, .int (nI kk)), (0, .ref b), (1, .ref (ad 0)), (2, .ref (am 0)), (3, .ref o)]) hx hb dL_law_2130 hl (k := 6) rfl (nI_add _ 5) (by decide) rfl (fun ls hl => ?_)
    refine lv_goto (tgt := 23) hx hb dL_law_2133 (by decide) ?_
    refine W.widen (k := 57 + (k + 1)) (n := 6494 + 6 * (k + 1)) (by omega) (by omega) ?_
    exact ih _ μ' g' _ _ _ hI' hP.swp hD.swp hS (lv_sub hl [3, 4, 5, 6, 0] rfl)
  · have h0 := nI_kk hkk (by decide) c8
    have hg := hg h0
    have hv := hv h0
    have hP2 := hP.swp
    refine lv_aload_n hx hb dL_law_1954 rfl (lv_at hl 5 rfl) ?_
    refine lv_iconst (v := 0) hx hb dL_law_1955 (by decide) ?_
    refine va_lald (f := g') hx hb hK hP2 32 26 rfl rfl vp_in_01 dL_law_1956 ?_
    rw [sb_cl0]
    refine lv_iload hx hb dL_law_1957 (lv_at hl 0 rfl) ?_
    refine lv_i2l (v := v.toInt64) hx hb dL_law_1959 rfl ?_
    refine W.lcmp hx hb dL_law_1960 ?_
    refine lv_if_eq (tgt := 1966) hx hb dL_law_1961 (by decide) (fun _ => ?_) (fun c7 => absurd ((lg_cmp_eq _ _).mpr (by rw [hg, hv])) c7)
    refine lv_goto (tgt := 2130) hx hb dL_law_1966 (by decide) ?_
    refine lv_iinc (v := nI (5 * (k + 1))) (lv' := [(4, .int (nI (5 * (k + 1)))), (6, .int v), (5, .int (nI kk)), (0, .ref b), (1, .ref (ad 0)), (2, .ref (am 0)), (3, .ref o)]) hx hb dL_law_2130 hl (k := 6) rfl (nI_add _ 5) (by decide) rfl (fun ls hl => ?_)
    refine lv_goto (tgt := 23) hx hb dL_law_2133 (by decide) ?_
    refine W.widen (k := 57 + (k + 1)) (n := 6494 + 6 * (k + 1)) (by omega) (by omega) ?_
    exact ih _ μ' g' _ _ _ hI' hP.swp hD.swp hS (lv_sub hl [3, 4, 5, 6, 0] rfl)
set_option maxHeartbeats 4000000 in
set_option maxRecDepth 100000 in
theorem law_case_29 (C : LawC p l s m meth c b L xs D cA cM cO) {k : Nat} (hk : 5 * k + 5 ≤ L) (ih : LoopAt p l e s m below meth c b D ad am cA cM o cO (k + 1)) {σ μ : tyS} {g : Nat → Int64} {H : Heap} {locs : List Loc} {ls : Array Slot} (hI : Inv k σ μ) (hP : va_P D vwCl (wH ad cA o cO σ g ++ wM am cM μ) H) (hD : va_D (fun q : Nat => s.heap.size ≤ q) (wH ad cA o cO σ g ++ wM am cM μ)) (hS : va_S (fun q : Nat => s.heap.size ≤ q) s.heap H locs) (hl : lv_has ls 7 [(0, .ref b), (1, .ref (ad 0)), (2, .ref (am 0)), (3, .ref o), (4, .int (nI (5 * k)))]) : W p l e room_1 s m #[Value.ref b] below meth c H locs (57 + k) (6494 + 6 * k) (lw_Z below #[Value.ref b] s) (F0 m 1969 ls []) := by
  obtain ⟨⟨hx, hb, hr, hml, hown0, hts0, hX, hbl, hlocks, hgv⟩, hl9, hOK, hNN, hNC, hCL, hK, hKM, hL⟩ := C
  have hown : s.vm.findClass RL = some m.cls := hown0
  have hts : ∀ w ∈ wsL_law, w.before #[Value.ref b] s = true := fun w h => hts0 w (wsL_law_in w h)
  have hS9 : CallFix p m c code 7 s #[.ref b] wsL_law RL := ⟨hx, hb, hml, hown, hts⟩
  have hA : ∀ q : Nat, s.heap.size ≤ q → (fun q : Nat => s.heap.size ≤ q) q := fun _ h => h
  have hbA : ¬ (fun q : Nat => s.heap.size ≤ q) b := Nat.not_le.mpr hbl
  obtain ⟨res, v, μ', eT, eM, ⟨kk, hkk, hth, hv⟩, hI'⟩ := op_depart hI (by omega) (xs (5 * k + 1)) (xs (5 * k + 2)) (xs (5 * k + 3))
  refine lv_aload_n hx hb dL_law_1969 rfl (lv_at hl 1 rfl) ?_
  refine gz_arg (i := 5 * k) (j := 1) hx hb hX hbl hbA hS (by omega) hL rfl dL_law_1970 dL_law_1971 dL_law_1973 dL_law_1974 dL_law_1975 (lv_at hl 0 rfl) (lv_at hl 4 rfl) ?_
  refine gz_arg (i := 5 * k) (j := 2) hx hb hX hbl hbA hS (by omega) hL rfl dL_law_1976 dL_law_1977 dL_law_1979 dL_law_1980 dL_law_1981 (lv_at hl 0 rfl) (lv_at hl 4 rfl) ?_
  refine gz_arg (i := 5 * k) (j := 3) hx hb hX hbl hbA hS (by omega) hL rfl dL_law_1982 dL_law_1983 dL_law_1985 dL_law_1986 dL_law_1987 (lv_at hl 0 rfl) (lv_at hl 4 rfl) ?_
  refine lv_aload_n hx hb dL_law_1988 rfl (lv_at hl 3 rfl) ?_
  refine gz_H (As := [.ref (ad 0), .int (xs (5 * k + 1)), .int (xs (5 * k + 2)), .int (xs (5 * k + 3)), .ref o]) (rest := []) hS9 (tyh_depart l hl9 D ad cA o cO H.size σ g (xs (5 * k + 1)) (xs (5 * k + 2)) (xs (5 * k + 3)) res kk eT hkk) (vx_cwSW 5 hts gL_law_L_depart rfl rfl rfl hd_L_depart ⟨by decide, by decide⟩) hK hP hD hS hA hNN hOK hNC hCL rfl hl.1 rfl (Nat.le_of_ble_eq_true rfl) dL_law_1989 ⟨by show _ ≤ 1114; omega, by show _ ≤ 14884; omega⟩ (fun g' H locs hg hP hD hS => ?_)
  refine lv_istore (lv' := [(5, .int (nI kk)), (0, .ref b), (1, .ref (ad 0)), (2, .ref (am 0)), (3, .ref o), (4, .int (nI (5 * k)))]) hx hb dL_law_1992 hl (by decide) rfl (fun ls hl => ?_)
  refine lv_aload_n hx hb dL_law_1994 rfl (lv_at hl 3 rfl) ?_
  refine gz_arg (i := 5 * k) (j := 1) hx hb hX hbl hbA hS (by omega) hL rfl dL_law_1995 dL_law_1996 dL_law_1998 dL_law_1999 dL_law_2000 (lv_at hl 1 rfl) (lv_at hl 5 rfl) ?_
  refine gz_arg (i := 5 * k) (j := 2) hx hb hX hbl hbA hS (by omega) hL rfl dL_law_2001 dL_law_2002 dL_law_2004 dL_law_2005 dL_law_2006 (lv_at hl 1 rfl) (lv_at hl 5 rfl) ?_
  refine gz_arg (i := 5 * k) (j := 3) hx hb hX hbl hbA hS (by omega) hL rfl dL_law_2007 dL_law_2008 dL_law_2010 dL_law_2011 dL_law_2012 (lv_at hl 1 rfl) (lv_at hl 5 rfl) ?_
  refine gz_Mi (w := wM am cM) (As := [.int (xs (5 * k + 1)), .int (xs (5 * k + 2)), .int (xs (5 * k + 3))]) (rest := []) hS9 (tyc_M_depart l D am cM _ μ (xs (5 * k + 1)) (xs (5 * k + 2)) (xs (5 * k + 3)) v μ' eM) (cwV 3 hts gL_law_X5_depart rfl rfl rfl hd_X5_depart ⟨by decide, by decide⟩) hKM hP.swp hD.swp hS hA hNN (ci := 5) (q0 := 0) (N := 30) rfl (wM_0 am cM μ) rfl hl.1 rfl (Nat.le_of_ble_eq_true rfl) dL_law_2013 ⟨by show _ ≤ 1114; omega, by show _ ≤ 14884; omega⟩ (fun H locs hP hD hS => ?_)
  refine lv_istore (lv' := [(6, .int v), (5, .int (nI kk)), (0, .ref b), (1, .ref (ad 0)), (2, .ref (am 0)), (3, .ref o), (4, .int (nI (5 * k)))]) hx hb dL_law_2016 hl (by decide) rfl (fun ls hl => ?_)
  refine lv_aload_n hx hb dL_law_2018 rfl (lv_at hl 4 rfl) ?_
  refine gz_Mi (w := wM am cM) (As := []) (rest := []) hS9 (tyc_M_thrown l D am cM _ μ' (μ'.2 0) rfl) (cwV 0 hts gL_law_X5_thrown rfl rfl rfl hd_X5_thrown ⟨by decide, by decide⟩) hKM hP hD hS hA hNN (ci := 5) (q0 := 0) (N := 30) rfl (wM_0 am cM μ') rfl hl.1 rfl (Nat.le_of_ble_eq_true rfl) dL_law_2019 ⟨by show _ ≤ 1114; omega, by show _ ≤ 14884; omega⟩ (fun H locs hP hD hS => ?_)
  refine lv_iload hx hb dL_law_2022 (lv_at hl 1 rfl) ?_
  refine lv_icmp_eq (tgt := 2029) hx hb dL_law_2024 (by decide) (fun _ => ?_) (fun c9 => absurd hth c9)
  refine lv_iload hx hb dL_law_2029 (lv_at hl 1 rfl) ?_
  refine lv_if_ne (tgt := 2046) hx hb dL_law_2031 (by decide) (fun _ => ?_) (fun c8 => ?_)
  · refine lv_goto (tgt := 2130) hx hb dL_law_2046 (by decide) ?_
    refine lv_iinc (v := nI (5 * (k + 1))) (lv' := [(4, .int (nI (5 * (k + 1)))), (6, .int v), (5, .int (nI kk)), (0, .ref b), (1, .ref (ad 0)), (2, .ref (am 0)), (3, .ref o)]) hx hb dL_law_2130 hl (k := 6) rfl (nI_add _ 5) (by decide) rfl (fun ls hl => ?_)
    refine lv_goto (tgt := 23) hx hb dL_law_2133 (by decide) ?_
    refine W.widen (k := 57 + (k + 1)) (n := 6494 + 6 * (k + 1)) (by omega) (by omega) ?_
    exact ih _ μ' g' _ _ _ hI' hP.swp hD.swp hS (lv_sub hl [3, 4, 5, 6, 0] rfl)
  · have h0 := nI_kk hkk (by decide) c8
    have hg := hg h0
    have hv := hv h0
    have hP2 := hP.swp
    refine lv_aload_n hx hb dL_law_2034 rfl (lv_at hl 5 rfl) ?_
    refine lv_iconst (v := 0) hx hb dL_law_2035 (by decide) ?_
    refine va_lald (f := g') hx hb hK hP2 32 26 rfl rfl vp_in_01 dL_law_2036 ?_
    rw [sb_cl0]
    refine lv_iload hx hb dL_law_2037 (lv_at hl 0 rfl) ?_
    refine lv_i2l (v := v.toInt64) hx hb dL_law_2039 rfl ?_
    refine W.lcmp hx hb dL_law_2040 ?_
    refine lv_if_eq (tgt := 2046) hx hb dL_law_2041 (by decide) (fun _ => ?_) (fun c7 => absurd ((lg_cmp_eq _ _).mpr (by rw [hg, hv])) c7)
    refine lv_goto (tgt := 2130) hx hb dL_law_2046 (by decide) ?_
    refine lv_iinc (v := nI (5 * (k + 1))) (lv' := [(4, .int (nI (5 * (k + 1)))), (6, .int v), (5, .int (nI kk)), (0, .ref b), (1, .ref (ad 0)), (2, .ref (am 0)), (3, .ref o)]) hx hb dL_law_2130 hl (k := 6) rfl (nI_add _ 5) (by decide) rfl (fun ls hl => ?_)
    refine lv_goto (tgt := 23) hx hb dL_law_2133 (by decide) ?_
    refine W.widen (k := 57 + (k + 1)) (n := 6494 + 6 * (k + 1)) (by omega) (by omega) ?_
    exact ih _ μ' g' _ _ _ hI' hP.swp hD.swp hS (lv_sub hl [3, 4, 5, 6, 0] rfl)
set_option maxHeartbeats 4000000 in
set_option maxRecDepth 100000 in
theorem law_case_30 (C : LawC p l s m meth c b L xs D cA cM cO) {k : Nat} (hk : 5 * k + 5 ≤ L) (ih : LoopAt p l e s m below meth c b D ad am cA cM o cO (k + 1)) {σ μ : tyS} {g : Nat → Int64} {H : Heap} {locs : List Loc} {ls : Array Slot} (hI : Inv k σ μ) (hP : va_P D vwCl (wH ad cA o cO σ g ++ wM am cM μ) H) (hD : va_D (fun q : Nat => s.heap.size ≤ q) (wH ad cA o cO σ g ++ wM am cM μ)) (hS : va_S (fun q : Nat => s.heap.size ≤ q) s.heap H locs) (hl : lv_has ls 7 [(0, .ref b), (1, .ref (ad 0)), (2, .ref (am 0)), (3, .ref o), (4, .int (nI (5 * k)))]) : W p l e room_1 s m #[Value.ref b] below meth c H locs (57 + k) (6494 + 6 * k) (lw_Z below #[Value.ref b] s) (F0 m 2049 ls []) := by
  obtain ⟨⟨hx, hb, hr, hml, hown0, hts0, hX, hbl, hlocks, hgv⟩, hl9, hOK, hNN, hNC, hCL, hK, hKM, hL⟩ := C
  have hown : s.vm.findClass RL = some m.cls := hown0
  have hts : ∀ w ∈ wsL_law, w.before #[Value.ref b] s = true := fun w h => hts0 w (wsL_law_in w h)
  have hS9 : CallFix p m c code 7 s #[.ref b] wsL_law RL := ⟨hx, hb, hml, hown, hts⟩
  have hA : ∀ q : Nat, s.heap.size ≤ q → (fun q : Nat => s.heap.size ≤ q) q := fun _ h => h
  have hbA : ¬ (fun q : Nat => s.heap.size ≤ q) b := Nat.not_le.mpr hbl
  obtain ⟨res, v, μ', eT, eM, ⟨kk, hkk, hth, hv⟩, hI'⟩ := op_arrive hI (by omega) (xs (5 * k + 1)) (xs (5 * k + 2))
  refine lv_aload_n hx hb dL_law_2049 rfl (lv_at hl 1 rfl) ?_
  refine gz_arg (i := 5 * k) (j := 1) hx hb hX hbl hbA hS (by omega) hL rfl dL_law_2050 dL_law_2051 dL_law_2053 dL_law_2054 dL_law_2055 (lv_at hl 0 rfl) (lv_at hl 4 rfl) ?_
  refine gz_arg (i := 5 * k) (j := 2) hx hb hX hbl hbA hS (by omega) hL rfl dL_law_2056 dL_law_2057 dL_law_2059 dL_law_2060 dL_law_2061 (lv_at hl 0 rfl) (lv_at hl 4 rfl) ?_
  refine lv_aload_n hx hb dL_law_2062 rfl (lv_at hl 3 rfl) ?_
  refine gz_H (As := [.ref (ad 0), .int (xs (5 * k + 1)), .int (xs (5 * k + 2)), .ref o]) (rest := []) hS9 (tyh_arrive l hl9 D ad cA o cO H.size σ g (xs (5 * k + 1)) (xs (5 * k + 2)) res kk eT hkk) (vx_cwSW 4 hts gL_law_L_arrive rfl rfl rfl hd_L_arrive ⟨by decide, by decide⟩) hK hP hD hS hA hNN hOK hNC hCL rfl hl.1 rfl (Nat.le_of_ble_eq_true rfl) dL_law_2063 ⟨by show _ ≤ 1114; omega, by show _ ≤ 14884; omega⟩ (fun g' H locs hg hP hD hS => ?_)
  refine lv_istore (lv' := [(5, .int (nI kk)), (0, .ref b), (1, .ref (ad 0)), (2, .ref (am 0)), (3, .ref o), (4, .int (nI (5 * k)))]) hx hb dL_law_2066 hl (by decide) rfl (fun ls hl => ?_)
  refine lv_aload_n hx hb dL_law_2068 rfl (lv_at hl 3 rfl) ?_
  refine gz_arg (i := 5 * k) (j := 1) hx hb hX hbl hbA hS (by omega) hL rfl dL_law_2069 dL_law_2070 dL_law_2072 dL_law_2073 dL_law_2074 (lv_at hl 1 rfl) (lv_at hl 5 rfl) ?_
  refine gz_arg (i := 5 * k) (j := 2) hx hb hX hbl hbA hS (by omega) hL rfl dL_law_2075 dL_law_2076 dL_law_2078 dL_law_2079 dL_law_2080 (lv_at hl 1 rfl) (lv_at hl 5 rfl) ?_
  refine gz_Mi (w := wM am cM) (As := [.int (xs (5 * k + 1)), .int (xs (5 * k + 2))]) (rest := []) hS9 (tyc_M_arrive l D am cM _ μ (xs (5 * k + 1)) (xs (5 * k + 2)) v μ' eM) (cwV 2 hts gL_law_X5_arrive rfl rfl rfl hd_X5_arrive ⟨by decide, by decide⟩) hKM hP.swp hD.swp hS hA hNN (ci := 5) (q0 := 0) (N := 30) rfl (wM_0 am cM μ) rfl hl.1 rfl (Nat.le_of_ble_eq_true rfl) dL_law_2081 ⟨by show _ ≤ 1114; omega, by show _ ≤ 14884; omega⟩ (fun H locs hP hD hS => ?_)
  refine lv_istore (lv' := [(6, .int v), (5, .int (nI kk)), (0, .ref b), (1, .ref (ad 0)), (2, .ref (am 0)), (3, .ref o), (4, .int (nI (5 * k)))]) hx hb dL_law_2084 hl (by decide) rfl (fun ls hl => ?_)
  refine lv_aload_n hx hb dL_law_2086 rfl (lv_at hl 4 rfl) ?_
  refine gz_Mi (w := wM am cM) (As := []) (rest := []) hS9 (tyc_M_thrown l D am cM _ μ' (μ'.2 0) rfl) (cwV 0 hts gL_law_X5_thrown rfl rfl rfl hd_X5_thrown ⟨by decide, by decide⟩) hKM hP hD hS hA hNN (ci := 5) (q0 := 0) (N := 30) rfl (wM_0 am cM μ') rfl hl.1 rfl (Nat.le_of_ble_eq_true rfl) dL_law_2087 ⟨by show _ ≤ 1114; omega, by show _ ≤ 14884; omega⟩ (fun H locs hP hD hS => ?_)
  refine lv_iload hx hb dL_law_2090 (lv_at hl 1 rfl) ?_
  refine lv_icmp_eq (tgt := 2097) hx hb dL_law_2092 (by decide) (fun _ => ?_) (fun c9 => absurd hth c9)
  refine lv_iload hx hb dL_law_2097 (lv_at hl 1 rfl) ?_
  refine lv_if_ne (tgt := 2114) hx hb dL_law_2099 (by decide) (fun _ => ?_) (fun c8 => ?_)
  · refine lv_goto (tgt := 2130) hx hb dL_law_2114 (by decide) ?_
    refine lv_iinc (v := nI (5 * (k + 1))) (lv' := [(4, .int (nI (5 * (k + 1)))), (6, .int v), (5, .int (nI kk)), (0, .ref b), (1, .ref (ad 0)), (2, .ref (am 0)), (3, .ref o)]) hx hb dL_law_2130 hl (k := 6) rfl (nI_add _ 5) (by decide) rfl (fun ls hl => ?_)
    refine lv_goto (tgt := 23) hx hb dL_law_2133 (by decide) ?_
    refine W.widen (k := 57 + (k + 1)) (n := 6494 + 6 * (k + 1)) (by omega) (by omega) ?_
    exact ih _ μ' g' _ _ _ hI' hP.swp hD.swp hS (lv_sub hl [3, 4, 5, 6, 0] rfl)
  · have h0 := nI_kk hkk (by decide) c8
    have hg := hg h0
    have hv := hv h0
    have hP2 := hP.swp
    refine lv_aload_n hx hb dL_law_2102 rfl (lv_at hl 5 rfl) ?_
    refine lv_iconst (v := 0) hx hb dL_law_2103 (by decide) ?_
    refine va_lald (f := g') hx hb hK hP2 32 26 rfl rfl vp_in_01 dL_law_2104 ?_
    rw [sb_cl0]
    refine lv_iload hx hb dL_law_2105 (lv_at hl 0 rfl) ?_
    refine lv_i2l (v := v.toInt64) hx hb dL_law_2107 rfl ?_
    refine W.lcmp hx hb dL_law_2108 ?_
    refine lv_if_eq (tgt := 2114) hx hb dL_law_2109 (by decide) (fun _ => ?_) (fun c7 => absurd ((lg_cmp_eq _ _).mpr (by rw [hg, hv])) c7)
    refine lv_goto (tgt := 2130) hx hb dL_law_2114 (by decide) ?_
    refine lv_iinc (v := nI (5 * (k + 1))) (lv' := [(4, .int (nI (5 * (k + 1)))), (6, .int v), (5, .int (nI kk)), (0, .ref b), (1, .ref (ad 0)), (2, .ref (am 0)), (3, .ref o)]) hx hb dL_law_2130 hl (k := 6) rfl (nI_add _ 5) (by decide) rfl (fun ls hl => ?_)
    refine lv_goto (tgt := 23) hx hb dL_law_2133 (by decide) ?_
    refine W.widen (k := 57 + (k + 1)) (n := 6494 + 6 * (k + 1)) (by omega) (by omega) ?_
    exact ih _ μ' g' _ _ _ hI' hP.swp hD.swp hS (lv_sub hl [3, 4, 5, 6, 0] rfl)
set_option maxHeartbeats 4000000 in
set_option maxRecDepth 100000 in
theorem law_case_31 (C : LawC p l s m meth c b L xs D cA cM cO) {k : Nat} (hk : 5 * k + 5 ≤ L) (ih : LoopAt p l e s m below meth c b D ad am cA cM o cO (k + 1)) {σ μ : tyS} {g : Nat → Int64} {H : Heap} {locs : List Loc} {ls : Array Slot} (hI : Inv k σ μ) (hP : va_P D vwCl (wH ad cA o cO σ g ++ wM am cM μ) H) (hD : va_D (fun q : Nat => s.heap.size ≤ q) (wH ad cA o cO σ g ++ wM am cM μ)) (hS : va_S (fun q : Nat => s.heap.size ≤ q) s.heap H locs) (hl : lv_has ls 7 [(0, .ref b), (1, .ref (ad 0)), (2, .ref (am 0)), (3, .ref o), (4, .int (nI (5 * k)))]) : W p l e room_1 s m #[Value.ref b] below meth c H locs (57 + k) (6494 + 6 * k) (lw_Z below #[Value.ref b] s) (F0 m 2117 ls []) := by
  obtain ⟨⟨hx, hb, hr, hml, hown0, hts0, hX, hbl, hlocks, hgv⟩, hl9, hOK, hNN, hNC, hCL, hK, hKM, hL⟩ := C
  have hown : s.vm.findClass RL = some m.cls := hown0
  have hts : ∀ w ∈ wsL_law, w.before #[Value.ref b] s = true := fun w h => hts0 w (wsL_law_in w h)
  have hS9 : CallFix p m c code 7 s #[.ref b] wsL_law RL := ⟨hx, hb, hml, hown, hts⟩
  have hA : ∀ q : Nat, s.heap.size ≤ q → (fun q : Nat => s.heap.size ≤ q) q := fun _ h => h
  have hbA : ¬ (fun q : Nat => s.heap.size ≤ q) b := Nat.not_le.mpr hbl
  obtain ⟨r, μ', eT, eM, hI'⟩ := op_trains hI (by omega)
  have hP3 : va_P D vwCl (wC ad cA σ ++ (wO o cO g ++ wM am cM μ)) H := by rw [← List.append_assoc]; exact hP
  have hD3 : va_D (fun q : Nat => s.heap.size ≤ q) (wC ad cA σ ++ (wO o cO g ++ wM am cM μ)) := by rw [← List.append_assoc]; exact hD
  refine lv_aload_n hx hb dL_law_2117 rfl (lv_at hl 1 rfl) ?_
  refine gz_Mi (w := wC ad cA) (As := []) (rest := []) hS9 (tyc_T_trains l D ad cA _ σ r eT) (cwV 0 hts gL_law_X4_trains rfl rfl rfl hd_X4_trains ⟨by decide, by decide⟩) (tH_C cA cO hK) hP3 hD3 hS hA hNN (ci := 4) (q0 := 0) (N := 12) rfl (wC_0 ad cA σ) rfl hl.1 rfl (Nat.le_of_ble_eq_true rfl) dL_law_2118 ⟨by show _ ≤ 1114; omega, by show _ ≤ 14884; omega⟩ (fun H locs hP3 hD3 hS => ?_)
  have hP : va_P D vwCl (wH ad cA o cO σ g ++ wM am cM μ) H := by unfold wH; rw [List.append_assoc]; exact hP3
  have hD : va_D (fun q : Nat => s.heap.size ≤ q) (wH ad cA o cO σ g ++ wM am cM μ) := by unfold wH; rw [List.append_assoc]; exact hD3
  refine lv_aload_n hx hb dL_law_2121 rfl (lv_at hl 2 rfl) ?_
  refine gz_Mi (w := wM am cM) (As := []) (rest := [.int r]) hS9 (tyc_M_trains l D am cM _ μ r μ' eM) (cwV 0 hts gL_law_X5_trains rfl rfl rfl hd_X5_trains ⟨by decide, by decide⟩) hKM hP.swp hD.swp hS hA hNN (ci := 5) (q0 := 0) (N := 30) rfl (wM_0 am cM μ) rfl hl.1 rfl (Nat.le_of_ble_eq_true rfl) dL_law_2122 ⟨by show _ ≤ 1114; omega, by show _ ≤ 14884; omega⟩ (fun H locs hP hD hS => ?_)
  refine lv_icmp_eq (tgt := 2130) hx hb dL_law_2125 (by decide) (fun _ => ?_) (fun c9 => absurd rfl c9)
  refine lv_iinc (v := nI (5 * (k + 1))) (lv' := [(4, .int (nI (5 * (k + 1)))), (0, .ref b), (1, .ref (ad 0)), (2, .ref (am 0)), (3, .ref o)]) hx hb dL_law_2130 hl (k := 4) rfl (nI_add _ 5) (by decide) rfl (fun ls hl => ?_)
  refine lv_goto (tgt := 23) hx hb dL_law_2133 (by decide) ?_
  refine W.widen (k := 57 + (k + 1)) (n := 6494 + 6 * (k + 1)) (by omega) (by omega) ?_
  exact ih σ μ' g _ _ _ hI' hP.swp hD.swp hS (lv_sub hl [1, 2, 3, 4, 0] rfl)
end LAW
