/-! ===== the law ===== -/
section LAW
variable {p : Program} {l : Launch} {e : Env} {s : State} {m : MethodId} {below : List Frame} {meth : Method} {c : Code} {b L : Nat} {xs : Nat → Int32} {D : va_G} {ad am : Nat → Nat} {cA cM : Nat → ClassId} {o : Nat} {cO : ClassId}
set_option maxHeartbeats 4000000 in
set_option maxRecDepth 100000 in
theorem law_case_11 (C : LawC p l s m meth c b L xs D cA cM cO) {k : Nat} (hk : 5 * k + 5 ≤ L) (ih : LoopAt p l e s m below meth c b D ad am cA cM o cO (k + 1)) {σ μ : tyS} {g : Nat → Int64} {H : Heap} {locs : List Loc} {ls : Array Slot} (hI : Inv k σ μ) (hP : va_P D vwCl (wH ad cA o cO σ g ++ wM am cM μ) H) (hD : va_D (fun q : Nat => s.heap.size ≤ q) (wH ad cA o cO σ g ++ wM am cM μ)) (hS : va_S (fun q : Nat => s.heap.size ≤ q) s.heap H locs) (hl : lv_has ls 7 [(0, .ref b), (1, .ref (ad 0)), (2, .ref (am 0)), (3, .ref o), (4, .int (nI (5 * k)))]) : W p l e room_1 s m #[Value.ref b] below meth c H locs (57 + k) (6494 + 6 * k) (lw_Z below #[Value.ref b] s) (F0 m 935 ls []) := by
  obtain ⟨⟨hx, hb, hr, hml, hown0, hts0, hX, hbl, hlocks, hgv⟩, hl9, hOK, hNN, hNC, hCL, hK, hKM, hL⟩ := C
  have hown : s.vm.findClass RL = some m.cls := hown0
  have hts : ∀ w ∈ wsL_law, w.before #[Value.ref b] s = true := fun w h => hts0 w (wsL_law_in w h)
  have hS9 : CallFix p m c code 7 s #[.ref b] wsL_law RL := ⟨hx, hb, hml, hown, hts⟩
  have hA : ∀ q : Nat, s.heap.size ≤ q → (fun q : Nat => s.heap.size ≤ q) q := fun _ h => h
  have hbA : ¬ (fun q : Nat => s.heap.size ≤ q) b := Nat.not_le.mpr hbl
  obtain ⟨res, v, μ', eT, eM, ⟨kk, hkk, hth, hv⟩, hI'⟩ := op_ask hI (by omega) (xs (5 * k + 1)) (xs (5 * k + 2))
  refine lv_aload_n hx hb dL_law_935 rfl (lv_at hl 1 rfl) ?_
  refine gz_arg (i := 5 * k) (j := 1) hx hb hX hbl hbA hS (by omega) hL rfl dL_law_936 dL_law_937 dL_law_939 dL_law_940 dL_law_941 (lv_at hl 0 rfl) (lv_at hl 4 rfl) ?_
  refine gz_arg (i := 5 * k) (j := 2) hx hb hX hbl hbA hS (by omega) hL rfl dL_law_942 dL_law_943 dL_law_945 dL_law_946 dL_law_947 (lv_at hl 0 rfl) (lv_at hl 4 rfl) ?_
  refine lv_aload_n hx hb dL_law_948 rfl (lv_at hl 3 rfl) ?_
  refine gz_H (As := [.ref (ad 0), .int (xs (5 * k + 1)), .int (xs (5 * k + 2)), .ref o]) (rest := []) hS9 (tyh_ask l hl9 D ad cA o cO H.size σ g (xs (5 * k + 1)) (xs (5 * k + 2)) res kk eT hkk) (vx_cwSW 4 hts gL_law_L_ask rfl rfl rfl hd_L_ask ⟨by decide, by decide⟩) hK hP hD hS hA hNN hOK hNC hCL rfl hl.1 rfl (Nat.le_of_ble_eq_true rfl) dL_law_949 ⟨by show _ ≤ 1114; omega, by show _ ≤ 14884; omega⟩ (fun g' H locs hg hP hD hS => ?_)
  refine lv_istore (lv' := [(5, .int (nI kk)), (0, .ref b), (1, .ref (ad 0)), (2, .ref (am 0)), (3, .ref o), (4, .int (nI (5 * k)))]) hx hb dL_law_952 hl (by decide) rfl (fun ls hl => ?_)
  refine lv_aload_n hx hb dL_law_954 rfl (lv_at hl 3 rfl) ?_
  refine gz_arg (i := 5 * k) (j := 1) hx hb hX hbl hbA hS (by omega) hL rfl dL_law_955 dL_law_956 dL_law_958 dL_law_959 dL_law_960 (lv_at hl 1 rfl) (lv_at hl 5 rfl) ?_
  refine gz_arg (i := 5 * k) (j := 2) hx hb hX hbl hbA hS (by omega) hL rfl dL_law_961 dL_law_962 dL_law_964 dL_law_965 dL_law_966 (lv_at hl 1 rfl) (lv_at hl 5 rfl) ?_
  refine gz_Mi (w := wM am cM) (As := [.int (xs (5 * k + 1)), .int (xs (5 * k + 2))]) (rest := []) hS9 (tyc_M_ask l D am cM _ μ (xs (5 * k + 1)) (xs (5 * k + 2)) v μ' eM) (cwV 2 hts gL_law_X5_ask rfl rfl rfl hd_X5_ask ⟨by decide, by decide⟩) hKM hP.swp hD.swp hS hA hNN (ci := 5) (q0 := 0) (N := 30) rfl (wM_0 am cM μ) rfl hl.1 rfl (Nat.le_of_ble_eq_true rfl) dL_law_967 ⟨by show _ ≤ 1114; omega, by show _ ≤ 14884; omega⟩ (fun H locs hP hD hS => ?_)
  refine lv_istore (lv' := [(6, .int v), (5, .int (nI kk)), (0, .ref b), (1, .ref (ad 0)), (2, .ref (am 0)), (3, .ref o), (4, .int (nI (5 * k)))]) hx hb dL_law_970 hl (by decide) rfl (fun ls hl => ?_)
  refine lv_aload_n hx hb dL_law_972 rfl (lv_at hl 4 rfl) ?_
  refine gz_Mi (w := wM am cM) (As := []) (rest := []) hS9 (tyc_M_thrown l D am cM _ μ' (μ'.2 0) rfl) (cwV 0 hts gL_law_X5_thrown rfl rfl rfl hd_X5_thrown ⟨by decide, by decide⟩) hKM hP hD hS hA hNN (ci := 5) (q0 := 0) (N := 30) rfl (wM_0 am cM μ') rfl hl.1 rfl (Nat.le_of_ble_eq_true rfl) dL_law_973 ⟨by show _ ≤ 1114; omega, by show _ ≤ 14884; omega⟩ (fun H locs hP hD hS => ?_)
  refine lv_iload hx hb dL_law_976 (lv_at hl 1 rfl) ?_
  refine lv_icmp_eq (tgt := 983) hx hb dL_law_978 (by decide) (fun _ => ?_) (fun c9 => absurd hth c9)
  refine lv_iload hx hb dL_law_983 (lv_at hl 1 rfl) ?_
  refine lv_if_ne (tgt := 1000) hx hb dL_law_985 (by decide) (fun _ => ?_) (fun c8 => ?_)
  · refine lv_goto (tgt := 2130) hx hb dL_law_1000 (by decide) ?_
    refine lv_iinc (v := nI (5 * (k + 1))) (lv' := [(4, .int (nI (5 * (k + 1)))), (6, .int v), (5, .int (nI kk)), (0, .ref b), (1, .ref (ad 0)), (2, .ref (am 0)), (3, .ref o)]) hx hb dL_law_2130 hl (k := 6) rfl (nI_add _ 5) (by decide) rfl (fun ls hl => ?_)
    refine lv_goto (tgt := 23) hx hb dL_law_2133 (by decide) ?_
    refine W.widen (k := 57 + (k + 1)) (n := 6494 + 6 * (k + 1)) (by omega) (by omega) ?_
    exact ih _ μ' g' _ _ _ hI' hP.swp hD.swp hS (lv_sub hl [3, 4, 5, 6, 0] rfl)
  · have h0 := nI_kk hkk (by decide) c8
    have hg := hg h0
    have hv := hv h0
    have hP2 := hP.swp
    refine lv_aload_n hx hb dL_law_988 rfl (lv_at hl 5 rfl) ?_
    refine lv_iconst (v := 0) hx hb dL_law_989 (by decide) ?_
    refine va_lald (f := g') hx hb hK hP2 32 26 rfl rfl vp_in_01 dL_law_990 ?_
    rw [sb_cl0]
    refine lv_iload hx hb dL_law_991 (lv_at hl 0 rfl) ?_
    refine lv_i2l (v := v.toInt64) hx hb dL_law_993 rfl ?_
    refine W.lcmp hx hb dL_law_994 ?_
    refine lv_if_eq (tgt := 1000) hx hb dL_law_995 (by decide) (fun _ => ?_) (fun c7 => absurd ((lg_cmp_eq _ _).mpr (by rw [hg, hv])) c7)
    refine lv_goto (tgt := 2130) hx hb dL_law_1000 (by decide) ?_
    refine lv_iinc (v := nI (5 * (k + 1))) (lv' := [(4, .int (nI (5 * (k + 1)))), (6, .int v), (5, .int (nI kk)), (0, .ref b), (1, .ref (ad 0)), (2, .ref (am 0)), (3, .ref o)]) hx hb dL_law_2130 hl (k := 6) rfl (nI_add _ 5) (by decide) rfl (fun ls hl => ?_)
    refine lv_goto (tgt := 23) hx hb dL_law_2133 (by decide) ?_
    refine W.widen (k := 57 + (k + 1)) (n := 6494 + 6 * (k + 1)) (by omega) (by omega) ?_
    exact ih _ μ' g' _ _ _ hI' hP.swp hD.swp hS (lv_sub hl [3, 4, 5, 6, 0] rfl)
set_option maxHeartbeats 4000000 in
set_option maxRecDepth 100000 in
theorem law_case_12 (C : LawC p l s m meth c b L xs D cA cM cO) {k : Nat} (hk : 5 * k + 5 ≤ L) (ih : LoopAt p l e s m below meth c b D ad am cA cM o cO (k + 1)) {σ μ : tyS} {g : Nat → Int64} {H : Heap} {locs : List Loc} {ls : Array Slot} (hI : Inv k σ μ) (hP : va_P D vwCl (wH ad cA o cO σ g ++ wM am cM μ) H) (hD : va_D (fun q : Nat => s.heap.size ≤ q) (wH ad cA o cO σ g ++ wM am cM μ)) (hS : va_S (fun q : Nat => s.heap.size ≤ q) s.heap H locs) (hl : lv_has ls 7 [(0, .ref b), (1, .ref (ad 0)), (2, .ref (am 0)), (3, .ref o), (4, .int (nI (5 * k)))]) : W p l e room_1 s m #[Value.ref b] below meth c H locs (57 + k) (6494 + 6 * k) (lw_Z below #[Value.ref b] s) (F0 m 1003 ls []) := by
  obtain ⟨⟨hx, hb, hr, hml, hown0, hts0, hX, hbl, hlocks, hgv⟩, hl9, hOK, hNN, hNC, hCL, hK, hKM, hL⟩ := C
  have hown : s.vm.findClass RL = some m.cls := hown0
  have hts : ∀ w ∈ wsL_law, w.before #[Value.ref b] s = true := fun w h => hts0 w (wsL_law_in w h)
  have hS9 : CallFix p m c code 7 s #[.ref b] wsL_law RL := ⟨hx, hb, hml, hown, hts⟩
  have hA : ∀ q : Nat, s.heap.size ≤ q → (fun q : Nat => s.heap.size ≤ q) q := fun _ h => h
  have hbA : ¬ (fun q : Nat => s.heap.size ≤ q) b := Nat.not_le.mpr hbl
  obtain ⟨res, v, μ', eT, eM, ⟨kk, hkk, hth, hv⟩, hI'⟩ := op_confirm hI (by omega) (xs (5 * k + 1))
  refine lv_aload_n hx hb dL_law_1003 rfl (lv_at hl 1 rfl) ?_
  refine gz_arg (i := 5 * k) (j := 1) hx hb hX hbl hbA hS (by omega) hL rfl dL_law_1004 dL_law_1005 dL_law_1007 dL_law_1008 dL_law_1009 (lv_at hl 0 rfl) (lv_at hl 4 rfl) ?_
  refine lv_aload_n hx hb dL_law_1010 rfl (lv_at hl 3 rfl) ?_
  refine gz_H (As := [.ref (ad 0), .int (xs (5 * k + 1)), .ref o]) (rest := []) hS9 (tyh_confirm l hl9 D ad cA o cO H.size σ g (xs (5 * k + 1)) res kk eT hkk) (vx_cwSW 3 hts gL_law_L_confirm rfl rfl rfl hd_L_confirm ⟨by decide, by decide⟩) hK hP hD hS hA hNN hOK hNC hCL rfl hl.1 rfl (Nat.le_of_ble_eq_true rfl) dL_law_1011 ⟨by show _ ≤ 1114; omega, by show _ ≤ 14884; omega⟩ (fun g' H locs hg hP hD hS => ?_)
  refine lv_istore (lv' := [(5, .int (nI kk)), (0, .ref b), (1, .ref (ad 0)), (2, .ref (am 0)), (3, .ref o), (4, .int (nI (5 * k)))]) hx hb dL_law_1014 hl (by decide) rfl (fun ls hl => ?_)
  refine lv_aload_n hx hb dL_law_1016 rfl (lv_at hl 3 rfl) ?_
  refine gz_arg (i := 5 * k) (j := 1) hx hb hX hbl hbA hS (by omega) hL rfl dL_law_1017 dL_law_1018 dL_law_1020 dL_law_1021 dL_law_1022 (lv_at hl 1 rfl) (lv_at hl 5 rfl) ?_
  refine gz_Mi (w := wM am cM) (As := [.int (xs (5 * k + 1))]) (rest := []) hS9 (tyc_M_confirm l D am cM _ μ (xs (5 * k + 1)) v μ' eM) (cwV 1 hts gL_law_X5_confirm rfl rfl rfl hd_X5_confirm ⟨by decide, by decide⟩) hKM hP.swp hD.swp hS hA hNN (ci := 5) (q0 := 0) (N := 30) rfl (wM_0 am cM μ) rfl hl.1 rfl (Nat.le_of_ble_eq_true rfl) dL_law_1023 ⟨by show _ ≤ 1114; omega, by show _ ≤ 14884; omega⟩ (fun H locs hP hD hS => ?_)
  refine lv_istore (lv' := [(6, .int v), (5, .int (nI kk)), (0, .ref b), (1, .ref (ad 0)), (2, .ref (am 0)), (3, .ref o), (4, .int (nI (5 * k)))]) hx hb dL_law_1026 hl (by decide) rfl (fun ls hl => ?_)
  refine lv_aload_n hx hb dL_law_1028 rfl (lv_at hl 4 rfl) ?_
  refine gz_Mi (w := wM am cM) (As := []) (rest := []) hS9 (tyc_M_thrown l D am cM _ μ' (μ'.2 0) rfl) (cwV 0 hts gL_law_X5_thrown rfl rfl rfl hd_X5_thrown ⟨by decide, by decide⟩) hKM hP hD hS hA hNN (ci := 5) (q0 := 0) (N := 30) rfl (wM_0 am cM μ') rfl hl.1 rfl (Nat.le_of_ble_eq_true rfl) dL_law_1029 ⟨by show _ ≤ 1114; omega, by show _ ≤ 14884; omega⟩ (fun H locs hP hD hS => ?_)
  refine lv_iload hx hb dL_law_1032 (lv_at hl 1 rfl) ?_
  refine lv_icmp_eq (tgt := 1039) hx hb dL_law_1034 (by decide) (fun _ => ?_) (fun c9 => absurd hth c9)
  refine lv_iload hx hb dL_law_1039 (lv_at hl 1 rfl) ?_
  refine lv_if_ne (tgt := 1056) hx hb dL_law_1041 (by decide) (fun _ => ?_) (fun c8 => ?_)
  · refine lv_goto (tgt := 2130) hx hb dL_law_1056 (by decide) ?_
    refine lv_iinc (v := nI (5 * (k + 1))) (lv' := [(4, .int (nI (5 * (k + 1)))), (6, .int v), (5, .int (nI kk)), (0, .ref b), (1, .ref (ad 0)), (2, .ref (am 0)), (3, .ref o)]) hx hb dL_law_2130 hl (k := 6) rfl (nI_add _ 5) (by decide) rfl (fun ls hl => ?_)
    refine lv_goto (tgt := 23) hx hb dL_law_2133 (by decide) ?_
    refine W.widen (k := 57 + (k + 1)) (n := 6494 + 6 * (k + 1)) (by omega) (by omega) ?_
    exact ih _ μ' g' _ _ _ hI' hP.swp hD.swp hS (lv_sub hl [3, 4, 5, 6, 0] rfl)
  · have h0 := nI_kk hkk (by decide) c8
    have hg := hg h0
    have hv := hv h0
    have hP2 := hP.swp
    refine lv_aload_n hx hb dL_law_1044 rfl (lv_at hl 5 rfl) ?_
    refine lv_iconst (v := 0) hx hb dL_law_1045 (by decide) ?_
    refine va_lald (f := g') hx hb hK hP2 32 26 rfl rfl vp_in_01 dL_law_1046 ?_
    rw [sb_cl0]
    refine lv_iload hx hb dL_law_1047 (lv_at hl 0 rfl) ?_
    refine lv_i2l (v := v.toInt64) hx hb dL_law_1049 rfl ?_
    refine W.lcmp hx hb dL_law_1050 ?_
    refine lv_if_eq (tgt := 1056) hx hb dL_law_1051 (by decide) (fun _ => ?_) (fun c7 => absurd ((lg_cmp_eq _ _).mpr (by rw [hg, hv])) c7)
    refine lv_goto (tgt := 2130) hx hb dL_law_1056 (by decide) ?_
    refine lv_iinc (v := nI (5 * (k + 1))) (lv' := [(4, .int (nI (5 * (k + 1)))), (6, .int v), (5, .int (nI kk)), (0, .ref b), (1, .ref (ad 0)), (2, .ref (am 0)), (3, .ref o)]) hx hb dL_law_2130 hl (k := 6) rfl (nI_add _ 5) (by decide) rfl (fun ls hl => ?_)
    refine lv_goto (tgt := 23) hx hb dL_law_2133 (by decide) ?_
    refine W.widen (k := 57 + (k + 1)) (n := 6494 + 6 * (k + 1)) (by omega) (by omega) ?_
    exact ih _ μ' g' _ _ _ hI' hP.swp hD.swp hS (lv_sub hl [3, 4, 5, 6, 0] rfl)
set_option maxHeartbeats 4000000 in
set_option maxRecDepth 100000 in
theorem law_case_13 (C : LawC p l s m meth c b L xs D cA cM cO) {k : Nat} (hk : 5 * k + 5 ≤ L) (ih : LoopAt p l e s m below meth c b D ad am cA cM o cO (k + 1)) {σ μ : tyS} {g : Nat → Int64} {H : Heap} {locs : List Loc} {ls : Array Slot} (hI : Inv k σ μ) (hP : va_P D vwCl (wH ad cA o cO σ g ++ wM am cM μ) H) (hD : va_D (fun q : Nat => s.heap.size ≤ q) (wH ad cA o cO σ g ++ wM am cM μ)) (hS : va_S (fun q : Nat => s.heap.size ≤ q) s.heap H locs) (hl : lv_has ls 7 [(0, .ref b), (1, .ref (ad 0)), (2, .ref (am 0)), (3, .ref o), (4, .int (nI (5 * k)))]) : W p l e room_1 s m #[Value.ref b] below meth c H locs (57 + k) (6494 + 6 * k) (lw_Z below #[Value.ref b] s) (F0 m 1059 ls []) := by
  obtain ⟨⟨hx, hb, hr, hml, hown0, hts0, hX, hbl, hlocks, hgv⟩, hl9, hOK, hNN, hNC, hCL, hK, hKM, hL⟩ := C
  have hown : s.vm.findClass RL = some m.cls := hown0
  have hts : ∀ w ∈ wsL_law, w.before #[Value.ref b] s = true := fun w h => hts0 w (wsL_law_in w h)
  have hS9 : CallFix p m c code 7 s #[.ref b] wsL_law RL := ⟨hx, hb, hml, hown, hts⟩
  have hA : ∀ q : Nat, s.heap.size ≤ q → (fun q : Nat => s.heap.size ≤ q) q := fun _ h => h
  have hbA : ¬ (fun q : Nat => s.heap.size ≤ q) b := Nat.not_le.mpr hbl
  obtain ⟨res, v, μ', eT, eM, ⟨kk, hkk, hth, hv⟩, hI'⟩ := op_resume hI (by omega) (xs (5 * k + 1)) (xs (5 * k + 2))
  refine lv_aload_n hx hb dL_law_1059 rfl (lv_at hl 1 rfl) ?_
  refine gz_arg (i := 5 * k) (j := 1) hx hb hX hbl hbA hS (by omega) hL rfl dL_law_1060 dL_law_1061 dL_law_1063 dL_law_1064 dL_law_1065 (lv_at hl 0 rfl) (lv_at hl 4 rfl) ?_
  refine gz_arg (i := 5 * k) (j := 2) hx hb hX hbl hbA hS (by omega) hL rfl dL_law_1066 dL_law_1067 dL_law_1069 dL_law_1070 dL_law_1071 (lv_at hl 0 rfl) (lv_at hl 4 rfl) ?_
  refine lv_aload_n hx hb dL_law_1072 rfl (lv_at hl 3 rfl) ?_
  refine gz_H (As := [.ref (ad 0), .int (xs (5 * k + 1)), .int (xs (5 * k + 2)), .ref o]) (rest := []) hS9 (tyh_resume l hl9 D ad cA o cO H.size σ g (xs (5 * k + 1)) (xs (5 * k + 2)) res kk eT hkk) (vx_cwSW 4 hts gL_law_L_resume rfl rfl rfl hd_L_resume ⟨by decide, by decide⟩) hK hP hD hS hA hNN hOK hNC hCL rfl hl.1 rfl (Nat.le_of_ble_eq_true rfl) dL_law_1073 ⟨by show _ ≤ 1114; omega, by show _ ≤ 14884; omega⟩ (fun g' H locs hg hP hD hS => ?_)
  refine lv_istore (lv' := [(5, .int (nI kk)), (0, .ref b), (1, .ref (ad 0)), (2, .ref (am 0)), (3, .ref o), (4, .int (nI (5 * k)))]) hx hb dL_law_1076 hl (by decide) rfl (fun ls hl => ?_)
  refine lv_aload_n hx hb dL_law_1078 rfl (lv_at hl 3 rfl) ?_
  refine gz_arg (i := 5 * k) (j := 1) hx hb hX hbl hbA hS (by omega) hL rfl dL_law_1079 dL_law_1080 dL_law_1082 dL_law_1083 dL_law_1084 (lv_at hl 1 rfl) (lv_at hl 5 rfl) ?_
  refine gz_arg (i := 5 * k) (j := 2) hx hb hX hbl hbA hS (by omega) hL rfl dL_law_1085 dL_law_1086 dL_law_1088 dL_law_1089 dL_law_1090 (lv_at hl 1 rfl) (lv_at hl 5 rfl) ?_
  refine gz_Mi (w := wM am cM) (As := [.int (xs (5 * k + 1)), .int (xs (5 * k + 2))]) (rest := []) hS9 (tyc_M_resume l D am cM _ μ (xs (5 * k + 1)) (xs (5 * k + 2)) v μ' eM) (cwV 2 hts gL_law_X5_resume rfl rfl rfl hd_X5_resume ⟨by decide, by decide⟩) hKM hP.swp hD.swp hS hA hNN (ci := 5) (q0 := 0) (N := 30) rfl (wM_0 am cM μ) rfl hl.1 rfl (Nat.le_of_ble_eq_true rfl) dL_law_1091 ⟨by show _ ≤ 1114; omega, by show _ ≤ 14884; omega⟩ (fun H locs hP hD hS => ?_)
  refine lv_istore (lv' := [(6, .int v), (5, .int (nI kk)), (0, .ref b), (1, .ref (ad 0)), (2, .ref (am 0)), (3, .ref o), (4, .int (nI (5 * k)))]) hx hb dL_law_1094 hl (by decide) rfl (fun ls hl => ?_)
  refine lv_aload_n hx hb dL_law_1096 rfl (lv_at hl 4 rfl) ?_
  refine gz_Mi (w := wM am cM) (As := []) (rest := []) hS9 (tyc_M_thrown l D am cM _ μ' (μ'.2 0) rfl) (cwV 0 hts gL_law_X5_thrown rfl rfl rfl hd_X5_thrown ⟨by decide, by decide⟩) hKM hP hD hS hA hNN (ci := 5) (q0 := 0) (N := 30) rfl (wM_0 am cM μ') rfl hl.1 rfl (Nat.le_of_ble_eq_true rfl) dL_law_1097 ⟨by show _ ≤ 1114; omega, by show _ ≤ 14884; omega⟩ (fun H locs hP hD hS => ?_)
  refine lv_iload hx hb dL_law_1100 (lv_at hl 1 rfl) ?_
  refine lv_icmp_eq (tgt := 1107) hx hb dL_law_1102 (by decide) (fun _ => ?_) (fun c9 => absurd hth c9)
  refine lv_iload hx hb dL_law_1107 (lv_at hl 1 rfl) ?_
  refine lv_if_ne (tgt := 1124) hx hb dL_law_1109 (by decide) (fun _ => ?_) (fun c8 => ?_)
  · refine lv_goto (tgt := 2130) hx hb dL_law_1124 (by decide) ?_
    refine lv_iinc (v := nI (5 * (k + 1))) (lv' := [(4, .int (nI (5 * (k + 1)))), (6, .int v), (5, .int (nI kk)), (0, .ref b), (1, .ref (ad 0)), (2, .ref (am 0)), (3, .ref o)]) hx hb dL_law_2130 hl (k := 6) rfl (nI_add _ 5) (by decide) rfl (fun ls hl => ?_)
    refine lv_goto (tgt := 23) hx hb dL_law_2133 (by decide) ?_
    refine W.widen (k := 57 + (k + 1)) (n := 6494 + 6 * (k + 1)) (by omega) (by omega) ?_
    exact ih _ μ' g' _ _ _ hI' hP.swp hD.swp hS (lv_sub hl [3, 4, 5, 6, 0] rfl)
  · have h0 := nI_kk hkk (by decide) c8
    have hg := hg h0
    have hv := hv h0
    have hP2 := hP.swp
    refine lv_aload_n hx hb dL_law_1112 rfl (lv_at hl 5 rfl) ?_
    refine lv_iconst (v := 0) hx hb dL_law_1113 (by decide) ?_
    refine va_lald (f := g') hx hb hK hP2 32 26 rfl rfl vp_in_01 dL_law_1114 ?_
    rw [sb_cl0]
    refine lv_iload hx hb dL_law_1115 (lv_at hl 0 rfl) ?_
    refine lv_i2l (v := v.toInt64) hx hb dL_law_1117 rfl ?_
    refine W.lcmp hx hb dL_law_1118 ?_
    refine lv_if_eq (tgt := 1124) hx hb dL_law_1119 (by decide) (fun _ => ?_) (fun c7 => absurd ((lg_cmp_eq _ _).mpr (by rw [hg, hv])) c7)
    refine lv_goto (tgt := 2130) hx hb dL_law_1124 (by decide) ?_
    refine lv_iinc (v := nI (5 * (k + 1))) (lv' := [(4, .int (nI (5 * (k + 1)))), (6, .int v), (5, .int (nI kk)), (0, .ref b), (1, .ref (ad 0)), (2, .ref (am 0)), (3, .ref o)]) hx hb dL_law_2130 hl (k := 6) rfl (nI_add _ 5) (by decide) rfl (fun ls hl => ?_)
    refine lv_goto (tgt := 23) hx hb dL_law_2133 (by decide) ?_
    refine W.widen (k := 57 + (k + 1)) (n := 6494 + 6 * (k + 1)) (by omega) (by omega) ?_
    exact ih _ μ' g' _ _ _ hI' hP.swp hD.swp hS (lv_sub hl [3, 4, 5, 6, 0] rfl)
set_option maxHeartbeats 4000000 in
set_option maxRecDepth 100000 in
theorem law_case_14 (C : LawC p l s m meth c b L xs D cA cM cO) {k : Nat} (hk : 5 * k + 5 ≤ L) (ih : LoopAt p l e s m below meth c b D ad am cA cM o cO (k + 1)) {σ μ : tyS} {g : Nat → Int64} {H : Heap} {locs : List Loc} {ls : Array Slot} (hI : Inv k σ μ) (hP : va_P D vwCl (wH ad cA o cO σ g ++ wM am cM μ) H) (hD : va_D (fun q : Nat => s.heap.size ≤ q) (wH ad cA o cO σ g ++ wM am cM μ)) (hS : va_S (fun q : Nat => s.heap.size ≤ q) s.heap H locs) (hl : lv_has ls 7 [(0, .ref b), (1, .ref (ad 0)), (2, .ref (am 0)), (3, .ref o), (4, .int (nI (5 * k)))]) : W p l e room_1 s m #[Value.ref b] below meth c H locs (57 + k) (6494 + 6 * k) (lw_Z below #[Value.ref b] s) (F0 m 1127 ls []) := by
  obtain ⟨⟨hx, hb, hr, hml, hown0, hts0, hX, hbl, hlocks, hgv⟩, hl9, hOK, hNN, hNC, hCL, hK, hKM, hL⟩ := C
  have hown : s.vm.findClass RL = some m.cls := hown0
  have hts : ∀ w ∈ wsL_law, w.before #[Value.ref b] s = true := fun w h => hts0 w (wsL_law_in w h)
  have hS9 : CallFix p m c code 7 s #[.ref b] wsL_law RL := ⟨hx, hb, hml, hown, hts⟩
  have hA : ∀ q : Nat, s.heap.size ≤ q → (fun q : Nat => s.heap.size ≤ q) q := fun _ h => h
  have hbA : ¬ (fun q : Nat => s.heap.size ≤ q) b := Nat.not_le.mpr hbl
  obtain ⟨res, v, μ', eT, eM, ⟨kk, hkk, hth, hv⟩, hI'⟩ := op_cancel hI (by omega) (xs (5 * k + 1)) (xs (5 * k + 2))
  refine lv_aload_n hx hb dL_law_1127 rfl (lv_at hl 1 rfl) ?_
  refine gz_arg (i := 5 * k) (j := 1) hx hb hX hbl hbA hS (by omega) hL rfl dL_law_1128 dL_law_1129 dL_law_1131 dL_law_1132 dL_law_1133 (lv_at hl 0 rfl) (lv_at hl 4 rfl) ?_
  refine gz_arg (i := 5 * k) (j := 2) hx hb hX hbl hbA hS (by omega) hL rfl dL_law_1134 dL_law_1135 dL_law_1137 dL_law_1138 dL_law_1139 (lv_at hl 0 rfl) (lv_at hl 4 rfl) ?_
  refine lv_aload_n hx hb dL_law_1140 rfl (lv_at hl 3 rfl) ?_
  refine gz_H (As := [.ref (ad 0), .int (xs (5 * k + 1)), .int (xs (5 * k + 2)), .ref o]) (rest := []) hS9 (tyh_cancel l hl9 D ad cA o cO H.size σ g (xs (5 * k + 1)) (xs (5 * k + 2)) res kk eT hkk) (vx_cwSW 4 hts gL_law_L_cancel rfl rfl rfl hd_L_cancel ⟨by decide, by decide⟩) hK hP hD hS hA hNN hOK hNC hCL rfl hl.1 rfl (Nat.le_of_ble_eq_true rfl) dL_law_1141 ⟨by show _ ≤ 1114; omega, by show _ ≤ 14884; omega⟩ (fun g' H locs hg hP hD hS => ?_)
  refine lv_istore (lv' := [(5, .int (nI kk)), (0, .ref b), (1, .ref (ad 0)), (2, .ref (am 0)), (3, .ref o), (4, .int (nI (5 * k)))]) hx hb dL_law_1144 hl (by decide) rfl (fun ls hl => ?_)
  refine lv_aload_n hx hb dL_law_1146 rfl (lv_at hl 3 rfl) ?_
  refine gz_arg (i := 5 * k) (j := 1) hx hb hX hbl hbA hS (by omega) hL rfl dL_law_1147 dL_law_1148 dL_law_1150 dL_law_1151 dL_law_1152 (lv_at hl 1 rfl) (lv_at hl 5 rfl) ?_
  refine gz_arg (i := 5 * k) (j := 2) hx hb hX hbl hbA hS (by omega) hL rfl dL_law_1153 dL_law_1154 dL_law_1156 dL_law_1157 dL_law_1158 (lv_at hl 1 rfl) (lv_at hl 5 rfl) ?_
  refine gz_Mi (w := wM am cM) (As := [.int (xs (5 * k + 1)), .int (xs (5 * k + 2))]) (rest := []) hS9 (tyc_M_cancel l D am cM _ μ (xs (5 * k + 1)) (xs (5 * k + 2)) v μ' eM) (cwV 2 hts gL_law_X5_cancel rfl rfl rfl hd_X5_cancel ⟨by decide, by decide⟩) hKM hP.swp hD.swp hS hA hNN (ci := 5) (q0 := 0) (N := 30) rfl (wM_0 am cM μ) rfl hl.1 rfl (Nat.le_of_ble_eq_true rfl) dL_law_1159 ⟨by show _ ≤ 1114; omega, by show _ ≤ 14884; omega⟩ (fun H locs hP hD hS => ?_)
  refine lv_istore (lv' := [(6, .int v), (5, .int (nI kk)), (0, .ref b), (1, .ref (ad 0)), (2, .ref (am 0)), (3, .ref o), (4, .int (nI (5 * k)))]) hx hb dL_law_1162 hl (by decide) rfl (fun ls hl => ?_)
  refine lv_aload_n hx hb dL_law_1164 rfl (lv_at hl 4 rfl) ?_
  refine gz_Mi (w := wM am cM) (As := []) (rest := []) hS9 (tyc_M_thrown l D am cM _ μ' (μ'.2 0) rfl) (cwV 0 hts gL_law_X5_thrown rfl rfl rfl hd_X5_thrown ⟨by decide, by decide⟩) hKM hP hD hS hA hNN (ci := 5) (q0 := 0) (N := 30) rfl (wM_0 am cM μ') rfl hl.1 rfl (Nat.le_of_ble_eq_true rfl) dL_law_1165 ⟨by show _ ≤ 1114; omega, by show _ ≤ 14884; omega⟩ (fun H locs hP hD hS => ?_)
  refine lv_iload hx hb dL_law_1168 (lv_at hl 1 rfl) ?_
  refine lv_icmp_eq (tgt := 1175) hx hb dL_law_1170 (by decide) (fun _ => ?_) (fun c9 => absurd hth c9)
  refine lv_iload hx hb dL_law_1175 (lv_at hl 1 rfl) ?_
  refine lv_if_ne (tgt := 1192) hx hb dL_law_1177 (by decide) (fun _ => ?_) (fun c8 => ?_)
  · refine lv_goto (tgt := 2130) hx hb dL_law_1192 (by decide) ?_
    refine lv_iinc (v := nI (5 * (k + 1))) (lv' := [(4, .int (nI (5 * (k + 1)))), (6, .int v), (5, .int (nI kk)), (0, .ref b), (1, .ref (ad 0)), (2, .ref (am 0)), (3, .ref o)]) hx hb dL_law_2130 hl (k := 6) rfl (nI_add _ 5) (by decide) rfl (fun ls hl => ?_)
    refine lv_goto (tgt := 23) hx hb dL_law_2133 (by decide) ?_
    refine W.widen (k := 57 + (k + 1)) (n := 6494 + 6 * (k + 1)) (by omega) (by omega) ?_
    exact ih _ μ' g' _ _ _ hI' hP.swp hD.swp hS (lv_sub hl [3, 4, 5, 6, 0] rfl)
  · have h0 := nI_kk hkk (by decide) c8
    have hg := hg h0
    have hv := hv h0
    have hP2 := hP.swp
    refine lv_aload_n hx hb dL_law_1180 rfl (lv_at hl 5 rfl) ?_
    refine lv_iconst (v := 0) hx hb dL_law_1181 (by decide) ?_
    refine va_lald (f := g') hx hb hK hP2 32 26 rfl rfl vp_in_01 dL_law_1182 ?_
    rw [sb_cl0]
    refine lv_iload hx hb dL_law_1183 (lv_at hl 0 rfl) ?_
    refine lv_i2l (v := v.toInt64) hx hb dL_law_1185 rfl ?_
    refine W.lcmp hx hb dL_law_1186 ?_
    refine lv_if_eq (tgt := 1192) hx hb dL_law_1187 (by decide) (fun _ => ?_) (fun c7 => absurd ((lg_cmp_eq _ _).mpr (by rw [hg, hv])) c7)
    refine lv_goto (tgt := 2130) hx hb dL_law_1192 (by decide) ?_
    refine lv_iinc (v := nI (5 * (k + 1))) (lv' := [(4, .int (nI (5 * (k + 1)))), (6, .int v), (5, .int (nI kk)), (0, .ref b), (1, .ref (ad 0)), (2, .ref (am 0)), (3, .ref o)]) hx hb dL_law_2130 hl (k := 6) rfl (nI_add _ 5) (by decide) rfl (fun ls hl => ?_)
    refine lv_goto (tgt := 23) hx hb dL_law_2133 (by decide) ?_
    refine W.widen (k := 57 + (k + 1)) (n := 6494 + 6 * (k + 1)) (by omega) (by omega) ?_
    exact ih _ μ' g' _ _ _ hI' hP.swp hD.swp hS (lv_sub hl [3, 4, 5, 6, 0] rfl)
set_option maxHeartbeats 4000000 in
set_option maxRecDepth 100000 in
theorem law_case_15 (C : LawC p l s m meth c b L xs D cA cM cO) {k : Nat} (hk : 5 * k + 5 ≤ L) (ih : LoopAt p l e s m below meth c b D ad am cA cM o cO (k + 1)) {σ μ : tyS} {g : Nat → Int64} {H : Heap} {locs : List Loc} {ls : Array Slot} (hI : Inv k σ μ) (hP : va_P D vwCl (wH ad cA o cO σ g ++ wM am cM μ) H) (hD : va_D (fun q : Nat => s.heap.size ≤ q) (wH ad cA o cO σ g ++ wM am cM μ)) (hS : va_S (fun q : Nat => s.heap.size ≤ q) s.heap H locs) (hl : lv_has ls 7 [(0, .ref b), (1, .ref (ad 0)), (2, .ref (am 0)), (3, .ref o), (4, .int (nI (5 * k)))]) : W p l e room_1 s m #[Value.ref b] below meth c H locs (57 + k) (6494 + 6 * k) (lw_Z below #[Value.ref b] s) (F0 m 1195 ls []) := by
  obtain ⟨⟨hx, hb, hr, hml, hown0, hts0, hX, hbl, hlocks, hgv⟩, hl9, hOK, hNN, hNC, hCL, hK, hKM, hL⟩ := C
  have hown : s.vm.findClass RL = some m.cls := hown0
  have hts : ∀ w ∈ wsL_law, w.before #[Value.ref b] s = true := fun w h => hts0 w (wsL_law_in w h)
  have hS9 : CallFix p m c code 7 s #[.ref b] wsL_law RL := ⟨hx, hb, hml, hown, hts⟩
  have hA : ∀ q : Nat, s.heap.size ≤ q → (fun q : Nat => s.heap.size ≤ q) q := fun _ h => h
  have hbA : ¬ (fun q : Nat => s.heap.size ≤ q) b := Nat.not_le.mpr hbl
  obtain ⟨res, v, μ', eT, eM, ⟨kk, hkk, hth, hv⟩, hI'⟩ := op_hangUp hI (by omega) (xs (5 * k + 1))
  refine lv_aload_n hx hb dL_law_1195 rfl (lv_at hl 1 rfl) ?_
  refine gz_arg (i := 5 * k) (j := 1) hx hb hX hbl hbA hS (by omega) hL rfl dL_law_1196 dL_law_1197 dL_law_1199 dL_law_1200 dL_law_1201 (lv_at hl 0 rfl) (lv_at hl 4 rfl) ?_
  refine lv_aload_n hx hb dL_law_1202 rfl (lv_at hl 3 rfl) ?_
  refine gz_H (As := [.ref (ad 0), .int (xs (5 * k + 1)), .ref o]) (rest := []) hS9 (tyh_hangUp l hl9 D ad cA o cO H.size σ g (xs (5 * k + 1)) res kk eT hkk) (vx_cwSW 3 hts gL_law_L_hangUp rfl rfl rfl hd_L_hangUp ⟨by decide, by decide⟩) hK hP hD hS hA hNN hOK hNC hCL rfl hl.1 rfl (Nat.le_of_ble_eq_true rfl) dL_law_1203 ⟨by show _ ≤ 1114; omega, by show _ ≤ 14884; omega⟩ (fun g' H locs hg hP hD hS => ?_)
  refine lv_istore (lv' := [(5, .int (nI kk)), (0, .ref b), (1, .ref (ad 0)), (2, .ref (am 0)), (3, .ref o), (4, .int (nI (5 * k)))]) hx hb dL_law_1206 hl (by decide) rfl (fun ls hl => ?_)
  refine lv_aload_n hx hb dL_law_1208 rfl (lv_at hl 3 rfl) ?_
  refine gz_arg (i := 5 * k) (j := 1) hx hb hX hbl hbA hS (by omega) hL rfl dL_law_1209 dL_law_1210 dL_law_1212 dL_law_1213 dL_law_1214 (lv_at hl 1 rfl) (lv_at hl 5 rfl) ?_
  refine gz_Mi (w := wM am cM) (As := [.int (xs (5 * k + 1))]) (rest := []) hS9 (tyc_M_hangUp l D am cM _ μ (xs (5 * k + 1)) v μ' eM) (cwV 1 hts gL_law_X5_hangUp rfl rfl rfl hd_X5_hangUp ⟨by decide, by decide⟩) hKM hP.swp hD.swp hS hA hNN (ci := 5) (q0 := 0) (N := 30) rfl (wM_0 am cM μ) rfl hl.1 rfl (Nat.le_of_ble_eq_true rfl) dL_law_1215 ⟨by show _ ≤ 1114; omega, by show _ ≤ 14884; omega⟩ (fun H locs hP hD hS => ?_)
  refine lv_istore (lv' := [(6, .int v), (5, .int (nI kk)), (0, .ref b), (1, .ref (ad 0)), (2, .ref (am 0)), (3, .ref o), (4, .int (nI (5 * k)))]) hx hb dL_law_1218 hl (by decide) rfl (fun ls hl => ?_)
  refine lv_aload_n hx hb dL_law_1220 rfl (lv_at hl 4 rfl) ?_
  refine gz_Mi (w := wM am cM) (As := []) (rest := []) hS9 (tyc_M_thrown l D am cM _ μ' (μ'.2 0) rfl) (cwV 0 hts gL_law_X5_thrown rfl rfl rfl hd_X5_thrown ⟨by decide, by decide⟩) hKM hP hD hS hA hNN (ci := 5) (q0 := 0) (N := 30) rfl (wM_0 am cM μ') rfl hl.1 rfl (Nat.le_of_ble_eq_true rfl) dL_law_1221 ⟨by show _ ≤ 1114; omega, by show _ ≤ 14884; omega⟩ (fun H locs hP hD hS => ?_)
  refine lv_iload hx hb dL_law_1224 (lv_at hl 1 rfl) ?_
  refine lv_icmp_eq (tgt := 1231) hx hb dL_law_1226 (by decide) (fun _ => ?_) (fun c9 => absurd hth c9)
  refine lv_iload hx hb dL_law_1231 (lv_at hl 1 rfl) ?_
  refine lv_if_ne (tgt := 1248) hx hb dL_law_1233 (by decide) (fun _ => ?_) (fun c8 => ?_)
  · refine lv_goto (tgt := 2130) hx hb dL_law_1248 (by decide) ?_
    refine lv_iinc (v := nI (5 * (k + 1))) (lv' := [(4, .int (nI (5 * (k + 1)))), (6, .int v), (5, .int (nI kk)), (0, .ref b), (1, .ref (ad 0)), (2, .ref (am 0)), (3, .ref o)]) hx hb dL_law_2130 hl (k := 6) rfl (nI_add _ 5) (by decide) rfl (fun ls hl => ?_)
    refine lv_goto (tgt := 23) hx hb dL_law_2133 (by decide) ?_
    refine W.widen (k := 57 + (k + 1)) (n := 6494 + 6 * (k + 1)) (by omega) (by omega) ?_
    exact ih _ μ' g' _ _ _ hI' hP.swp hD.swp hS (lv_sub hl [3, 4, 5, 6, 0] rfl)
  · have h0 := nI_kk hkk (by decide) c8
    have hg := hg h0
    have hv := hv h0
    have hP2 := hP.swp
    refine lv_aload_n hx hb dL_law_1236 rfl (lv_at hl 5 rfl) ?_
    refine lv_iconst (v := 0) hx hb dL_law_1237 (by decide) ?_
    refine va_lald (f := g') hx hb hK hP2 32 26 rfl rfl vp_in_01 dL_law_1238 ?_
    rw [sb_cl0]
    refine lv_iload hx hb dL_law_1239 (lv_at hl 0 rfl) ?_
    refine lv_i2l (v := v.toInt64) hx hb dL_law_1241 rfl ?_
    refine W.lcmp hx hb dL_law_1242 ?_
    refine lv_if_eq (tgt := 1248) hx hb dL_law_1243 (by decide) (fun _ => ?_) (fun c7 => absurd ((lg_cmp_eq _ _).mpr (by rw [hg, hv])) c7)
    refine lv_goto (tgt := 2130) hx hb dL_law_1248 (by decide) ?_
    refine lv_iinc (v := nI (5 * (k + 1))) (lv' := [(4, .int (nI (5 * (k + 1)))), (6, .int v), (5, .int (nI kk)), (0, .ref b), (1, .ref (ad 0)), (2, .ref (am 0)), (3, .ref o)]) hx hb dL_law_2130 hl (k := 6) rfl (nI_add _ 5) (by decide) rfl (fun ls hl => ?_)
    refine lv_goto (tgt := 23) hx hb dL_law_2133 (by decide) ?_
    refine W.widen (k := 57 + (k + 1)) (n := 6494 + 6 * (k + 1)) (by omega) (by omega) ?_
    exact ih _ μ' g' _ _ _ hI' hP.swp hD.swp hS (lv_sub hl [3, 4, 5, 6, 0] rfl)
set_option maxHeartbeats 4000000 in
set_option maxRecDepth 100000 in
theorem law_case_16 (C : LawC p l s m meth c b L xs D cA cM cO) {k : Nat} (hk : 5 * k + 5 ≤ L) (ih : LoopAt p l e s m below meth c b D ad am cA cM o cO (k + 1)) {σ μ : tyS} {g : Nat → Int64} {H : Heap} {locs : List Loc} {ls : Array Slot} (hI : Inv k σ μ) (hP : va_P D vwCl (wH ad cA o cO σ g ++ wM am cM μ) H) (hD : va_D (fun q : Nat => s.heap.size ≤ q) (wH ad cA o cO σ g ++ wM am cM μ)) (hS : va_S (fun q : Nat => s.heap.size ≤ q) s.heap H locs) (hl : lv_has ls 7 [(0, .ref b), (1, .ref (ad 0)), (2, .ref (am 0)), (3, .ref o), (4, .int (nI (5 * k)))]) : W p l e room_1 s m #[Value.ref b] below meth c H locs (57 + k) (6494 + 6 * k) (lw_Z below #[Value.ref b] s) (F0 m 1251 ls []) := by
  obtain ⟨⟨hx, hb, hr, hml, hown0, hts0, hX, hbl, hlocks, hgv⟩, hl9, hOK, hNN, hNC, hCL, hK, hKM, hL⟩ := C
  have hown : s.vm.findClass RL = some m.cls := hown0
  have hts : ∀ w ∈ wsL_law, w.before #[Value.ref b] s = true := fun w h => hts0 w (wsL_law_in w h)
  have hS9 : CallFix p m c code 7 s #[.ref b] wsL_law RL := ⟨hx, hb, hml, hown, hts⟩
  have hA : ∀ q : Nat, s.heap.size ≤ q → (fun q : Nat => s.heap.size ≤ q) q := fun _ h => h
  have hbA : ¬ (fun q : Nat => s.heap.size ≤ q) b := Nat.not_le.mpr hbl
  obtain ⟨res, v, μ', eT, eM, ⟨kk, hkk, hth, hv⟩, hI'⟩ := op_callOf hI (by omega) (xs (5 * k + 1))
  refine lv_aload_n hx hb dL_law_1251 rfl (lv_at hl 1 rfl) ?_
  refine gz_arg (i := 5 * k) (j := 1) hx hb hX hbl hbA hS (by omega) hL rfl dL_law_1252 dL_law_1253 dL_law_1255 dL_law_1256 dL_law_1257 (lv_at hl 0 rfl) (lv_at hl 4 rfl) ?_
  refine lv_aload_n hx hb dL_law_1258 rfl (lv_at hl 3 rfl) ?_
  refine gz_H (As := [.ref (ad 0), .int (xs (5 * k + 1)), .ref o]) (rest := []) hS9 (tyh_callOf l hl9 D ad cA o cO H.size σ g (xs (5 * k + 1)) res kk eT hkk) (vx_cwSW 3 hts gL_law_L_callOf rfl rfl rfl hd_L_callOf ⟨by decide, by decide⟩) hK hP hD hS hA hNN hOK hNC hCL rfl hl.1 rfl (Nat.le_of_ble_eq_true rfl) dL_law_1259 ⟨by show _ ≤ 1114; omega, by show _ ≤ 14884; omega⟩ (fun g' H locs hg hP hD hS => ?_)
  refine lv_istore (lv' := [(5, .int (nI kk)), (0, .ref b), (1, .ref (ad 0)), (2, .ref (am 0)), (3, .ref o), (4, .int (nI (5 * k)))]) hx hb dL_law_1262 hl (by decide) rfl (fun ls hl => ?_)
  refine lv_aload_n hx hb dL_law_1264 rfl (lv_at hl 3 rfl) ?_
  refine gz_arg (i := 5 * k) (j := 1) hx hb hX hbl hbA hS (by omega) hL rfl dL_law_1265 dL_law_1266 dL_law_1268 dL_law_1269 dL_law_1270 (lv_at hl 1 rfl) (lv_at hl 5 rfl) ?_
  refine gz_Mi (w := wM am cM) (As := [.int (xs (5 * k + 1))]) (rest := []) hS9 (tyc_M_callOf l D am cM _ μ (xs (5 * k + 1)) v μ' eM) (cwV 1 hts gL_law_X5_callOf rfl rfl rfl hd_X5_callOf ⟨by decide, by decide⟩) hKM hP.swp hD.swp hS hA hNN (ci := 5) (q0 := 0) (N := 30) rfl (wM_0 am cM μ) rfl hl.1 rfl (Nat.le_of_ble_eq_true rfl) dL_law_1271 ⟨by show _ ≤ 1114; omega, by show _ ≤ 14884; omega⟩ (fun H locs hP hD hS => ?_)
  refine lv_istore (lv' := [(6, .int v), (5, .int (nI kk)), (0, .ref b), (1, .ref (ad 0)), (2, .ref (am 0)), (3, .ref o), (4, .int (nI (5 * k)))]) hx hb dL_law_1274 hl (by decide) rfl (fun ls hl => ?_)
  refine lv_aload_n hx hb dL_law_1276 rfl (lv_at hl 4 rfl) ?_
  refine gz_Mi (w := wM am cM) (As := []) (rest := []) hS9 (tyc_M_thrown l D am cM _ μ' (μ'.2 0) rfl) (cwV 0 hts gL_law_X5_thrown rfl rfl rfl hd_X5_thrown ⟨by decide, by decide⟩) hKM hP hD hS hA hNN (ci := 5) (q0 := 0) (N := 30) rfl (wM_0 am cM μ') rfl hl.1 rfl (Nat.le_of_ble_eq_true rfl) dL_law_1277 ⟨by show _ ≤ 1114; omega, by show _ ≤ 14884; omega⟩ (fun H locs hP hD hS => ?_)
  refine lv_iload hx hb dL_law_1280 (lv_at hl 1 rfl) ?_
  refine lv_icmp_eq (tgt := 1287) hx hb dL_law_1282 (by decide) (fun _ => ?_) (fun c9 => absurd hth c9)
  refine lv_iload hx hb dL_law_1287 (lv_at hl 1 rfl) ?_
  refine lv_if_ne (tgt := 1304) hx hb dL_law_1289 (by decide) (fun _ => ?_) (fun c8 => ?_)
  · refine lv_goto (tgt := 2130) hx hb dL_law_1304 (by decide) ?_
    refine lv_iinc (v := nI (5 * (k + 1))) (lv' := [(4, .int (nI (5 * (k + 1)))), (6, .int v), (5, .int (nI kk)), (0, .ref b), (1, .ref (ad 0)), (2, .ref (am 0)), (3, .ref o)]) hx hb dL_law_2130 hl (k := 6) rfl (nI_add _ 5) (by decide) rfl (fun ls hl => ?_)
    refine lv_goto (tgt := 23) hx hb dL_law_2133 (by decide) ?_
    refine W.widen (k := 57 + (k + 1)) (n := 6494 + 6 * (k + 1)) (by omega) (by omega) ?_
    exact ih _ μ' g' _ _ _ hI' hP.swp hD.swp hS (lv_sub hl [3, 4, 5, 6, 0] rfl)
  · have h0 := nI_kk hkk (by decide) c8
    have hg := hg h0
    have hv := hv h0
    have hP2 := hP.swp
    refine lv_aload_n hx hb dL_law_1292 rfl (lv_at hl 5 rfl) ?_
    refine lv_iconst (v := 0) hx hb dL_law_1293 (by decide) ?_
    refine va_lald (f := g') hx hb hK hP2 32 26 rfl rfl vp_in_01 dL_law_1294 ?_
    rw [sb_cl0]
    refine lv_iload hx hb dL_law_1295 (lv_at hl 0 rfl) ?_
    refine lv_i2l (v := v.toInt64) hx hb dL_law_1297 rfl ?_
    refine W.lcmp hx hb dL_law_1298 ?_
    refine lv_if_eq (tgt := 1304) hx hb dL_law_1299 (by decide) (fun _ => ?_) (fun c7 => absurd ((lg_cmp_eq _ _).mpr (by rw [hg, hv])) c7)
    refine lv_goto (tgt := 2130) hx hb dL_law_1304 (by decide) ?_
    refine lv_iinc (v := nI (5 * (k + 1))) (lv' := [(4, .int (nI (5 * (k + 1)))), (6, .int v), (5, .int (nI kk)), (0, .ref b), (1, .ref (ad 0)), (2, .ref (am 0)), (3, .ref o)]) hx hb dL_law_2130 hl (k := 6) rfl (nI_add _ 5) (by decide) rfl (fun ls hl => ?_)
    refine lv_goto (tgt := 23) hx hb dL_law_2133 (by decide) ?_
    refine W.widen (k := 57 + (k + 1)) (n := 6494 + 6 * (k + 1)) (by omega) (by omega) ?_
    exact ih _ μ' g' _ _ _ hI' hP.swp hD.swp hS (lv_sub hl [3, 4, 5, 6, 0] rfl)
set_option maxHeartbeats 4000000 in
set_option maxRecDepth 100000 in
theorem law_case_17 (C : LawC p l s m meth c b L xs D cA cM cO) {k : Nat} (hk : 5 * k + 5 ≤ L) (ih : LoopAt p l e s m below meth c b D ad am cA cM o cO (k + 1)) {σ μ : tyS} {g : Nat → Int64} {H : Heap} {locs : List Loc} {ls : Array Slot} (hI : Inv k σ μ) (hP : va_P D vwCl (wH ad cA o cO σ g ++ wM am cM μ) H) (hD : va_D (fun q : Nat => s.heap.size ≤ q) (wH ad cA o cO σ g ++ wM am cM μ)) (hS : va_S (fun q : Nat => s.heap.size ≤ q) s.heap H locs) (hl : lv_has ls 7 [(0, .ref b), (1, .ref (ad 0)), (2, .ref (am 0)), (3, .ref o), (4, .int (nI (5 * k)))]) : W p l e room_1 s m #[Value.ref b] below meth c H locs (57 + k) (6494 + 6 * k) (lw_Z below #[Value.ref b] s) (F0 m 1307 ls []) := by
  obtain ⟨⟨hx, hb, hr, hml, hown0, hts0, hX, hbl, hlocks, hgv⟩, hl9, hOK, hNN, hNC, hCL, hK, hKM, hL⟩ := C
  have hown : s.vm.findClass RL = some m.cls := hown0
  have hts : ∀ w ∈ wsL_law, w.before #[Value.ref b] s = true := fun w h => hts0 w (wsL_law_in w h)
  have hS9 : CallFix p m c code 7 s #[.ref b] wsL_law RL := ⟨hx, hb, hml, hown, hts⟩
  have hA : ∀ q : Nat, s.heap.size ≤ q → (fun q : Nat => s.heap.size ≤ q) q := fun _ h => h
  have hbA : ¬ (fun q : Nat => s.heap.size ≤ q) b := Nat.not_le.mpr hbl
  obtain ⟨res, v, μ', eT, eM, ⟨kk, hkk, hth, hv⟩, hI'⟩ := op_way hI (by omega) (xs (5 * k + 1))
  refine lv_aload_n hx hb dL_law_1307 rfl (lv_at hl 1 rfl) ?_
  refine gz_arg (i := 5 * k) (j := 1) hx hb hX hbl hbA hS (by omega) hL rfl dL_law_1308 dL_law_1309 dL_law_1311 dL_law_1312 dL_law_1313 (lv_at hl 0 rfl) (lv_at hl 4 rfl) ?_
  refine lv_aload_n hx hb dL_law_1314 rfl (lv_at hl 3 rfl) ?_
  refine gz_H (As := [.ref (ad 0), .int (xs (5 * k + 1)), .ref o]) (rest := []) hS9 (tyh_way l hl9 D ad cA o cO H.size σ g (xs (5 * k + 1)) res kk eT hkk) (vx_cwSW 3 hts gL_law_L_way rfl rfl rfl hd_L_way ⟨by decide, by decide⟩) hK hP hD hS hA hNN hOK hNC hCL rfl hl.1 rfl (Nat.le_of_ble_eq_true rfl) dL_law_1315 ⟨by show _ ≤ 1114; omega, by show _ ≤ 14884; omega⟩ (fun g' H locs hg hP hD hS => ?_)
  refine lv_istore (lv' := [(5, .int (nI kk)), (0, .ref b), (1, .ref (ad 0)), (2, .ref (am 0)), (3, .ref o), (4, .int (nI (5 * k)))]) hx hb dL_law_1318 hl (by decide) rfl (fun ls hl => ?_)
  refine lv_aload_n hx hb dL_law_1320 rfl (lv_at hl 3 rfl) ?_
  refine gz_arg (i := 5 * k) (j := 1) hx hb hX hbl hbA hS (by omega) hL rfl dL_law_1321 dL_law_1322 dL_law_1324 dL_law_1325 dL_law_1326 (lv_at hl 1 rfl) (lv_at hl 5 rfl) ?_
  refine gz_Mi (w := wM am cM) (As := [.int (xs (5 * k + 1))]) (rest := []) hS9 (tyc_M_way l D am cM _ μ (xs (5 * k + 1)) v μ' eM) (cwV 1 hts gL_law_X5_way rfl rfl rfl hd_X5_way ⟨by decide, by decide⟩) hKM hP.swp hD.swp hS hA hNN (ci := 5) (q0 := 0) (N := 30) rfl (wM_0 am cM μ) rfl hl.1 rfl (Nat.le_of_ble_eq_true rfl) dL_law_1327 ⟨by show _ ≤ 1114; omega, by show _ ≤ 14884; omega⟩ (fun H locs hP hD hS => ?_)
  refine lv_istore (lv' := [(6, .int v), (5, .int (nI kk)), (0, .ref b), (1, .ref (ad 0)), (2, .ref (am 0)), (3, .ref o), (4, .int (nI (5 * k)))]) hx hb dL_law_1330 hl (by decide) rfl (fun ls hl => ?_)
  refine lv_aload_n hx hb dL_law_1332 rfl (lv_at hl 4 rfl) ?_
  refine gz_Mi (w := wM am cM) (As := []) (rest := []) hS9 (tyc_M_thrown l D am cM _ μ' (μ'.2 0) rfl) (cwV 0 hts gL_law_X5_thrown rfl rfl rfl hd_X5_thrown ⟨by decide, by decide⟩) hKM hP hD hS hA hNN (ci := 5) (q0 := 0) (N := 30) rfl (wM_0 am cM μ') rfl hl.1 rfl (Nat.le_of_ble_eq_true rfl) dL_law_1333 ⟨by show _ ≤ 1114; omega, by show _ ≤ 14884; omega⟩ (fun H locs hP hD hS => ?_)
  refine lv_iload hx hb dL_law_1336 (lv_at hl 1 rfl) ?_
  refine lv_icmp_eq (tgt := 1343) hx hb dL_law_1338 (by decide) (fun _ => ?_) (fun c9 => absurd hth c9)
  refine lv_iload hx hb dL_law_1343 (lv_at hl 1 rfl) ?_
  refine lv_if_ne (tgt := 1360) hx hb dL_law_1345 (by decide) (fun _ => ?_) (fun c8 => ?_)
  · refine lv_goto (tgt := 2130) hx hb dL_law_1360 (by decide) ?_
    refine lv_iinc (v := nI (5 * (k + 1))) (lv' := [(4, .int (nI (5 * (k + 1)))), (6, .int v), (5, .int (nI kk)), (0, .ref b), (1, .ref (ad 0)), (2, .ref (am 0)), (3, .ref o)]) hx hb dL_law_2130 hl (k := 6) rfl (nI_add _ 5) (by decide) rfl (fun ls hl => ?_)
    refine lv_goto (tgt := 23) hx hb dL_law_2133 (by decide) ?_
    refine W.widen (k := 57 + (k + 1)) (n := 6494 + 6 * (k + 1)) (by omega) (by omega) ?_
    exact ih _ μ' g' _ _ _ hI' hP.swp hD.swp hS (lv_sub hl [3, 4, 5, 6, 0] rfl)
  · have h0 := nI_kk hkk (by decide) c8
    have hg := hg h0
    have hv := hv h0
    have hP2 := hP.swp
    refine lv_aload_n hx hb dL_law_1348 rfl (lv_at hl 5 rfl) ?_
    refine lv_iconst (v := 0) hx hb dL_law_1349 (by decide) ?_
    refine va_lald (f := g') hx hb hK hP2 32 26 rfl rfl vp_in_01 dL_law_1350 ?_
    rw [sb_cl0]
    refine lv_iload hx hb dL_law_1351 (lv_at hl 0 rfl) ?_
    refine lv_i2l (v := v.toInt64) hx hb dL_law_1353 rfl ?_
    refine W.lcmp hx hb dL_law_1354 ?_
    refine lv_if_eq (tgt := 1360) hx hb dL_law_1355 (by decide) (fun _ => ?_) (fun c7 => absurd ((lg_cmp_eq _ _).mpr (by rw [hg, hv])) c7)
    refine lv_goto (tgt := 2130) hx hb dL_law_1360 (by decide) ?_
    refine lv_iinc (v := nI (5 * (k + 1))) (lv' := [(4, .int (nI (5 * (k + 1)))), (6, .int v), (5, .int (nI kk)), (0, .ref b), (1, .ref (ad 0)), (2, .ref (am 0)), (3, .ref o)]) hx hb dL_law_2130 hl (k := 6) rfl (nI_add _ 5) (by decide) rfl (fun ls hl => ?_)
    refine lv_goto (tgt := 23) hx hb dL_law_2133 (by decide) ?_
    refine W.widen (k := 57 + (k + 1)) (n := 6494 + 6 * (k + 1)) (by omega) (by omega) ?_
    exact ih _ μ' g' _ _ _ hI' hP.swp hD.swp hS (lv_sub hl [3, 4, 5, 6, 0] rfl)
set_option maxHeartbeats 4000000 in
set_option maxRecDepth 100000 in
theorem law_case_18 (C : LawC p l s m meth c b L xs D cA cM cO) {k : Nat} (hk : 5 * k + 5 ≤ L) (ih : LoopAt p l e s m below meth c b D ad am cA cM o cO (k + 1)) {σ μ : tyS} {g : Nat → Int64} {H : Heap} {locs : List Loc} {ls : Array Slot} (hI : Inv k σ μ) (hP : va_P D vwCl (wH ad cA o cO σ g ++ wM am cM μ) H) (hD : va_D (fun q : Nat => s.heap.size ≤ q) (wH ad cA o cO σ g ++ wM am cM μ)) (hS : va_S (fun q : Nat => s.heap.size ≤ q) s.heap H locs) (hl : lv_has ls 7 [(0, .ref b), (1, .ref (ad 0)), (2, .ref (am 0)), (3, .ref o), (4, .int (nI (5 * k)))]) : W p l e room_1 s m #[Value.ref b] below meth c H locs (57 + k) (6494 + 6 * k) (lw_Z below #[Value.ref b] s) (F0 m 1363 ls []) := by
  obtain ⟨⟨hx, hb, hr, hml, hown0, hts0, hX, hbl, hlocks, hgv⟩, hl9, hOK, hNN, hNC, hCL, hK, hKM, hL⟩ := C
  have hown : s.vm.findClass RL = some m.cls := hown0
  have hts : ∀ w ∈ wsL_law, w.before #[Value.ref b] s = true := fun w h => hts0 w (wsL_law_in w h)
  have hS9 : CallFix p m c code 7 s #[.ref b] wsL_law RL := ⟨hx, hb, hml, hown, hts⟩
  have hA : ∀ q : Nat, s.heap.size ≤ q → (fun q : Nat => s.heap.size ≤ q) q := fun _ h => h
  have hbA : ¬ (fun q : Nat => s.heap.size ≤ q) b := Nat.not_le.mpr hbl
  obtain ⟨r, μ', eT, eM, hI'⟩ := op_busy hI (by omega)
  have hP3 : va_P D vwCl (wC ad cA σ ++ (wO o cO g ++ wM am cM μ)) H := by rw [← List.append_assoc]; exact hP
  have hD3 : va_D (fun q : Nat => s.heap.size ≤ q) (wC ad cA σ ++ (wO o cO g ++ wM am cM μ)) := by rw [← List.append_assoc]; exact hD
  refine lv_aload_n hx hb dL_law_1363 rfl (lv_at hl 1 rfl) ?_
  refine gz_Mi (w := wC ad cA) (As := []) (rest := []) hS9 (tyc_T_busy l D ad cA _ σ r eT) (cwV 0 hts gL_law_X4_busy rfl rfl rfl hd_X4_busy ⟨by decide, by decide⟩) (tH_C cA cO hK) hP3 hD3 hS hA hNN (ci := 4) (q0 := 0) (N := 12) rfl (wC_0 ad cA σ) rfl hl.1 rfl (Nat.le_of_ble_eq_true rfl) dL_law_1364 ⟨by show _ ≤ 1114; omega, by show _ ≤ 14884; omega⟩ (fun H locs hP3 hD3 hS => ?_)
  have hP : va_P D vwCl (wH ad cA o cO σ g ++ wM am cM μ) H := by unfold wH; rw [List.append_assoc]; exact hP3
  have hD : va_D (fun q : Nat => s.heap.size ≤ q) (wH ad cA o cO σ g ++ wM am cM μ) := by unfold wH; rw [List.append_assoc]; exact hD3
  refine lv_aload_n hx hb dL_law_1367 rfl (lv_at hl 2 rfl) ?_
  refine gz_Mi (w := wM am cM) (As := []) (rest := [.int r]) hS9 (tyc_M_busy l D am cM _ μ r μ' eM) (cwV 0 hts gL_law_X5_busy rfl rfl rfl hd_X5_busy ⟨by decide, by decide⟩) hKM hP.swp hD.swp hS hA hNN (ci := 5) (q0 := 0) (N := 30) rfl (wM_0 am cM μ) rfl hl.1 rfl (Nat.le_of_ble_eq_true rfl) dL_law_1368 ⟨by show _ ≤ 1114; omega, by show _ ≤ 14884; omega⟩ (fun H locs hP hD hS => ?_)
  refine lv_icmp_eq (tgt := 2130) hx hb dL_law_1371 (by decide) (fun _ => ?_) (fun c9 => absurd rfl c9)
  refine lv_iinc (v := nI (5 * (k + 1))) (lv' := [(4, .int (nI (5 * (k + 1)))), (0, .ref b), (1, .ref (ad 0)), (2, .ref (am 0)), (3, .ref o)]) hx hb dL_law_2130 hl (k := 4) rfl (nI_add _ 5) (by decide) rfl (fun ls hl => ?_)
  refine lv_goto (tgt := 23) hx hb dL_law_2133 (by decide) ?_
  refine W.widen (k := 57 + (k + 1)) (n := 6494 + 6 * (k + 1)) (by omega) (by omega) ?_
  exact ih σ μ' g _ _ _ hI' hP.swp hD.swp hS (lv_sub hl [1, 2, 3, 4, 0] rfl)
set_option maxHeartbeats 4000000 in
set_option maxRecDepth 100000 in
theorem law_case_19 (C : LawC p l s m meth c b L xs D cA cM cO) {k : Nat} (hk : 5 * k + 5 ≤ L) (ih : LoopAt p l e s m below meth c b D ad am cA cM o cO (k + 1)) {σ μ : tyS} {g : Nat → Int64} {H : Heap} {locs : List Loc} {ls : Array Slot} (hI : Inv k σ μ) (hP : va_P D vwCl (wH ad cA o cO σ g ++ wM am cM μ) H) (hD : va_D (fun q : Nat => s.heap.size ≤ q) (wH ad cA o cO σ g ++ wM am cM μ)) (hS : va_S (fun q : Nat => s.heap.size ≤ q) s.heap H locs) (hl : lv_has ls 7 [(0, .ref b), (1, .ref (ad 0)), (2, .ref (am 0)), (3, .ref o), (4, .int (nI (5 * k)))]) : W p l e room_1 s m #[Value.ref b] below meth c H locs (57 + k) (6494 + 6 * k) (lw_Z below #[Value.ref b] s) (F0 m 1376 ls []) := by
  obtain ⟨⟨hx, hb, hr, hml, hown0, hts0, hX, hbl, hlocks, hgv⟩, hl9, hOK, hNN, hNC, hCL, hK, hKM, hL⟩ := C
  have hown : s.vm.findClass RL = some m.cls := hown0
  have hts : ∀ w ∈ wsL_law, w.before #[Value.ref b] s = true := fun w h => hts0 w (wsL_law_in w h)
  have hS9 : CallFix p m c code 7 s #[.ref b] wsL_law RL := ⟨hx, hb, hml, hown, hts⟩
  have hA : ∀ q : Nat, s.heap.size ≤ q → (fun q : Nat => s.heap.size ≤ q) q := fun _ h => h
  have hbA : ¬ (fun q : Nat => s.heap.size ≤ q) b := Nat.not_le.mpr hbl
  obtain ⟨res, v, μ', eT, eM, ⟨kk, hkk, hth, hv⟩, hI'⟩ := op_cut hI (by omega) (xs (5 * k + 1)) (xs (5 * k + 2)) (xs (5 * k + 3))
  refine lv_aload_n hx hb dL_law_1376 rfl (lv_at hl 1 rfl) ?_
  refine gz_arg (i := 5 * k) (j := 1) hx hb hX hbl hbA hS (by omega) hL rfl dL_law_1377 dL_law_1378 dL_law_1380 dL_law_1381 dL_law_1382 (lv_at hl 0 rfl) (lv_at hl 4 rfl) ?_
  refine gz_arg (i := 5 * k) (j := 2) hx hb hX hbl hbA hS (by omega) hL rfl dL_law_1383 dL_law_1384 dL_law_1386 dL_law_1387 dL_law_1388 (lv_at hl 0 rfl) (lv_at hl 4 rfl) ?_
  refine gz_arg (i := 5 * k) (j := 3) hx hb hX hbl hbA hS (by omega) hL rfl dL_law_1389 dL_law_1390 dL_law_1392 dL_law_1393 dL_law_1394 (lv_at hl 0 rfl) (lv_at hl 4 rfl) ?_
  refine lv_aload_n hx hb dL_law_1395 rfl (lv_at hl 3 rfl) ?_
  refine gz_H (As := [.ref (ad 0), .int (xs (5 * k + 1)), .int (xs (5 * k + 2)), .int (xs (5 * k + 3)), .ref o]) (rest := []) hS9 (tyh_cut l hl9 D ad cA o cO H.size σ g (xs (5 * k + 1)) (xs (5 * k + 2)) (xs (5 * k + 3)) res kk eT hkk) (vx_cwSW 5 hts gL_law_L_cut rfl rfl rfl hd_L_cut ⟨by decide, by decide⟩) hK hP hD hS hA hNN hOK hNC hCL rfl hl.1 rfl (Nat.le_of_ble_eq_true rfl) dL_law_1396 ⟨by show _ ≤ 1114; omega, by show _ ≤ 14884; omega⟩ (fun g' H locs hg hP hD hS => ?_)
  refine lv_istore (lv' := [(5, .int (nI kk)), (0, .ref b), (1, .ref (ad 0)), (2, .ref (am 0)), (3, .ref o), (4, .int (nI (5 * k)))]) hx hb dL_law_1399 hl (by decide) rfl (fun ls hl => ?_)
  refine lv_aload_n hx hb dL_law_1401 rfl (lv_at hl 3 rfl) ?_
  refine gz_arg (i := 5 * k) (j := 1) hx hb hX hbl hbA hS (by omega) hL rfl dL_law_1402 dL_law_1403 dL_law_1405 dL_law_1406 dL_law_1407 (lv_at hl 1 rfl) (lv_at hl 5 rfl) ?_
  refine gz_arg (i := 5 * k) (j := 2) hx hb hX hbl hbA hS (by omega) hL rfl dL_law_1408 dL_law_1409 dL_law_1411 dL_law_1412 dL_law_1413 (lv_at hl 1 rfl) (lv_at hl 5 rfl) ?_
  refine gz_arg (i := 5 * k) (j := 3) hx hb hX hbl hbA hS (by omega) hL rfl dL_law_1414 dL_law_1415 dL_law_1417 dL_law_1418 dL_law_1419 (lv_at hl 1 rfl) (lv_at hl 5 rfl) ?_
  refine gz_Mi (w := wM am cM) (As := [.int (xs (5 * k + 1)), .int (xs (5 * k + 2)), .int (xs (5 * k + 3))]) (rest := []) hS9 (tyc_M_cut l D am cM _ μ (xs (5 * k + 1)) (xs (5 * k + 2)) (xs (5 * k + 3)) v μ' eM) (cwV 3 hts gL_law_X5_cut rfl rfl rfl hd_X5_cut ⟨by decide, by decide⟩) hKM hP.swp hD.swp hS hA hNN (ci := 5) (q0 := 0) (N := 30) rfl (wM_0 am cM μ) rfl hl.1 rfl (Nat.le_of_ble_eq_true rfl) dL_law_1420 ⟨by show _ ≤ 1114; omega, by show _ ≤ 14884; omega⟩ (fun H locs hP hD hS => ?_)
  refine lv_istore (lv' := [(6, .int v), (5, .int (nI kk)), (0, .ref b), (1, .ref (ad 0)), (2, .ref (am 0)), (3, .ref o), (4, .int (nI (5 * k)))]) hx hb dL_law_1423 hl (by decide) rfl (fun ls hl => ?_)
  refine lv_aload_n hx hb dL_law_1425 rfl (lv_at hl 4 rfl) ?_
  refine gz_Mi (w := wM am cM) (As := []) (rest := []) hS9 (tyc_M_thrown l D am cM _ μ' (μ'.2 0) rfl) (cwV 0 hts gL_law_X5_thrown rfl rfl rfl hd_X5_thrown ⟨by decide, by decide⟩) hKM hP hD hS hA hNN (ci := 5) (q0 := 0) (N := 30) rfl (wM_0 am cM μ') rfl hl.1 rfl (Nat.le_of_ble_eq_true rfl) dL_law_1426 ⟨by show _ ≤ 1114; omega, by show _ ≤ 14884; omega⟩ (fun H locs hP hD hS => ?_)
  refine lv_iload hx hb dL_law_1429 (lv_at hl 1 rfl) ?_
  refine lv_icmp_eq (tgt := 1436) hx hb dL_law_1431 (by decide) (fun _ => ?_) (fun c9 => absurd hth c9)
  refine lv_iload hx hb dL_law_1436 (lv_at hl 1 rfl) ?_
  refine lv_if_ne (tgt := 1453) hx hb dL_law_1438 (by decide) (fun _ => ?_) (fun c8 => ?_)
  · refine lv_goto (tgt := 2130) hx hb dL_law_1453 (by decide) ?_
    refine lv_iinc (v := nI (5 * (k + 1))) (lv' := [(4, .int (nI (5 * (k + 1)))), (6, .int v), (5, .int (nI kk)), (0, .ref b), (1, .ref (ad 0)), (2, .ref (am 0)), (3, .ref o)]) hx hb dL_law_2130 hl (k := 6) rfl (nI_add _ 5) (by decide) rfl (fun ls hl => ?_)
    refine lv_goto (tgt := 23) hx hb dL_law_2133 (by decide) ?_
    refine W.widen (k := 57 + (k + 1)) (n := 6494 + 6 * (k + 1)) (by omega) (by omega) ?_
    exact ih _ μ' g' _ _ _ hI' hP.swp hD.swp hS (lv_sub hl [3, 4, 5, 6, 0] rfl)
  · have h0 := nI_kk hkk (by decide) c8
    have hg := hg h0
    have hv := hv h0
    have hP2 := hP.swp
    refine lv_aload_n hx hb dL_law_1441 rfl (lv_at hl 5 rfl) ?_
    refine lv_iconst (v := 0) hx hb dL_law_1442 (by decide) ?_
    refine va_lald (f := g') hx hb hK hP2 32 26 rfl rfl vp_in_01 dL_law_1443 ?_
    rw [sb_cl0]
    refine lv_iload hx hb dL_law_1444 (lv_at hl 0 rfl) ?_
    refine lv_i2l (v := v.toInt64) hx hb dL_law_1446 rfl ?_
    refine W.lcmp hx hb dL_law_1447 ?_
    refine lv_if_eq (tgt := 1453) hx hb dL_law_1448 (by decide) (fun _ => ?_) (fun c7 => absurd ((lg_cmp_eq _ _).mpr (by rw [hg, hv])) c7)
    refine lv_goto (tgt := 2130) hx hb dL_law_1453 (by decide) ?_
    refine lv_iinc (v := nI (5 * (k + 1))) (lv' := [(4, .int (nI (5 * (k + 1)))), (6, .int v), (5, .int (nI kk)), (0, .ref b), (1, .ref (ad 0)), (2, .ref (am 0)), (3, .ref o)]) hx hb dL_law_2130 hl (k := 6) rfl (nI_add _ 5) (by decide) rfl (fun ls hl => ?_)
    refine lv_goto (tgt := 23) hx hb dL_law_2133 (by decide) ?_
    refine W.widen (k := 57 + (k + 1)) (n := 6494 + 6 * (k + 1)) (by omega) (by omega) ?_
    exact ih _ μ' g' _ _ _ hI' hP.swp hD.swp hS (lv_sub hl [3, 4, 5, 6, 0] rfl)
set_option maxHeartbeats 4000000 in
set_option maxRecDepth 100000 in
theorem law_case_20 (C : LawC p l s m meth c b L xs D cA cM cO) {k : Nat} (hk : 5 * k + 5 ≤ L) (ih : LoopAt p l e s m below meth c b D ad am cA cM o cO (k + 1)) {σ μ : tyS} {g : Nat → Int64} {H : Heap} {locs : List Loc} {ls : Array Slot} (hI : Inv k σ μ) (hP : va_P D vwCl (wH ad cA o cO σ g ++ wM am cM μ) H) (hD : va_D (fun q : Nat => s.heap.size ≤ q) (wH ad cA o cO σ g ++ wM am cM μ)) (hS : va_S (fun q : Nat => s.heap.size ≤ q) s.heap H locs) (hl : lv_has ls 7 [(0, .ref b), (1, .ref (ad 0)), (2, .ref (am 0)), (3, .ref o), (4, .int (nI (5 * k)))]) : W p l e room_1 s m #[Value.ref b] below meth c H locs (57 + k) (6494 + 6 * k) (lw_Z below #[Value.ref b] s) (F0 m 1456 ls []) := by
  obtain ⟨⟨hx, hb, hr, hml, hown0, hts0, hX, hbl, hlocks, hgv⟩, hl9, hOK, hNN, hNC, hCL, hK, hKM, hL⟩ := C
  have hown : s.vm.findClass RL = some m.cls := hown0
  have hts : ∀ w ∈ wsL_law, w.before #[Value.ref b] s = true := fun w h => hts0 w (wsL_law_in w h)
  have hS9 : CallFix p m c code 7 s #[.ref b] wsL_law RL := ⟨hx, hb, hml, hown, hts⟩
  have hA : ∀ q : Nat, s.heap.size ≤ q → (fun q : Nat => s.heap.size ≤ q) q := fun _ h => h
  have hbA : ¬ (fun q : Nat => s.heap.size ≤ q) b := Nat.not_le.mpr hbl
  obtain ⟨res, μ', eT, eM, ⟨kk, hkk, hth⟩, hI'⟩ := op_mend hI (by omega) (xs (5 * k + 1)) (xs (5 * k + 2)) (xs (5 * k + 3))
  refine lv_aload_n hx hb dL_law_1456 rfl (lv_at hl 1 rfl) ?_
  refine gz_arg (i := 5 * k) (j := 1) hx hb hX hbl hbA hS (by omega) hL rfl dL_law_1457 dL_law_1458 dL_law_1460 dL_law_1461 dL_law_1462 (lv_at hl 0 rfl) (lv_at hl 4 rfl) ?_
  refine gz_arg (i := 5 * k) (j := 2) hx hb hX hbl hbA hS (by omega) hL rfl dL_law_1463 dL_law_1464 dL_law_1466 dL_law_1467 dL_law_1468 (lv_at hl 0 rfl) (lv_at hl 4 rfl) ?_
  refine gz_arg (i := 5 * k) (j := 3) hx hb hX hbl hbA hS (by omega) hL rfl dL_law_1469 dL_law_1470 dL_law_1472 dL_law_1473 dL_law_1474 (lv_at hl 0 rfl) (lv_at hl 4 rfl) ?_
  refine gz_Hv (As := [.ref (ad 0), .int (xs (5 * k + 1)), .int (xs (5 * k + 2)), .int (xs (5 * k + 3))]) (rest := []) hS9 (tyh_mend l hl9 D ad cA o cO H.size σ g (xs (5 * k + 1)) (xs (5 * k + 2)) (xs (5 * k + 3)) res kk eT hkk) (vx_cwSW 4 hts gL_law_L_mend rfl rfl rfl hd_L_mend ⟨by decide, by decide⟩) hK hP hD hS hA hNN hOK hNC hCL rfl hl.1 rfl (Nat.le_of_ble_eq_true rfl) dL_law_1475 ⟨by show _ ≤ 1114; omega, by show _ ≤ 14884; omega⟩ (fun g' H locs hP hD hS => ?_)
  refine lv_istore (lv' := [(5, .int (nI kk)), (0, .ref b), (1, .ref (ad 0)), (2, .ref (am 0)), (3, .ref o), (4, .int (nI (5 * k)))]) hx hb dL_law_1478 hl (by decide) rfl (fun ls hl => ?_)
  refine lv_aload_n hx hb dL_law_1480 rfl (lv_at hl 3 rfl) ?_
  refine gz_arg (i := 5 * k) (j := 1) hx hb hX hbl hbA hS (by omega) hL rfl dL_law_1481 dL_law_1482 dL_law_1484 dL_law_1485 dL_law_1486 (lv_at hl 1 rfl) (lv_at hl 5 rfl) ?_
  refine gz_arg (i := 5 * k) (j := 2) hx hb hX hbl hbA hS (by omega) hL rfl dL_law_1487 dL_law_1488 dL_law_1490 dL_law_1491 dL_law_1492 (lv_at hl 1 rfl) (lv_at hl 5 rfl) ?_
  refine gz_arg (i := 5 * k) (j := 3) hx hb hX hbl hbA hS (by omega) hL rfl dL_law_1493 dL_law_1494 dL_law_1496 dL_law_1497 dL_law_1498 (lv_at hl 1 rfl) (lv_at hl 5 rfl) ?_
  refine gz_Mv (w := wM am cM) (As := [.int (xs (5 * k + 1)), .int (xs (5 * k + 2)), .int (xs (5 * k + 3))]) (rest := []) hS9 (tyc_M_mend l D am cM _ μ (xs (5 * k + 1)) (xs (5 * k + 2)) (xs (5 * k + 3)) μ' eM) (cwV 3 hts gL_law_X5_mend rfl rfl rfl hd_X5_mend ⟨by decide, by decide⟩) hKM hP.swp hD.swp hS hA hNN (ci := 5) (q0 := 0) (N := 30) rfl (wM_0 am cM μ) rfl hl.1 rfl (Nat.le_of_ble_eq_true rfl) dL_law_1499 ⟨by show _ ≤ 1114; omega, by show _ ≤ 14884; omega⟩ (fun H locs hP hD hS => ?_)
  refine lv_aload_n hx hb dL_law_1502 rfl (lv_at hl 3 rfl) ?_
  refine gz_Mi (w := wM am cM) (As := []) (rest := []) hS9 (tyc_M_thrown l D am cM _ μ' (μ'.2 0) rfl) (cwV 0 hts gL_law_X5_thrown rfl rfl rfl hd_X5_thrown ⟨by decide, by decide⟩) hKM hP hD hS hA hNN (ci := 5) (q0 := 0) (N := 30) rfl (wM_0 am cM μ') rfl hl.1 rfl (Nat.le_of_ble_eq_true rfl) dL_law_1503 ⟨by show _ ≤ 1114; omega, by show _ ≤ 14884; omega⟩ (fun H locs hP hD hS => ?_)
  refine lv_iload hx hb dL_law_1506 (lv_at hl 0 rfl) ?_
  refine lv_icmp_eq (tgt := 1513) hx hb dL_law_1508 (by decide) (fun _ => ?_) (fun c9 => absurd hth c9)
  refine lv_goto (tgt := 2130) hx hb dL_law_1513 (by decide) ?_
  refine lv_iinc (v := nI (5 * (k + 1))) (lv' := [(4, .int (nI (5 * (k + 1)))), (5, .int (nI kk)), (0, .ref b), (1, .ref (ad 0)), (2, .ref (am 0)), (3, .ref o)]) hx hb dL_law_2130 hl (k := 5) rfl (nI_add _ 5) (by decide) rfl (fun ls hl => ?_)
  refine lv_goto (tgt := 23) hx hb dL_law_2133 (by decide) ?_
  refine W.widen (k := 57 + (k + 1)) (n := 6494 + 6 * (k + 1)) (by omega) (by omega) ?_
  exact ih _ μ' g' _ _ _ hI' hP.swp hD.swp hS (lv_sub hl [2, 3, 4, 5, 0] rfl)
set_option maxHeartbeats 4000000 in
set_option maxRecDepth 100000 in
theorem law_case_21 (C : LawC p l s m meth c b L xs D cA cM cO) {k : Nat} (hk : 5 * k + 5 ≤ L) (ih : LoopAt p l e s m below meth c b D ad am cA cM o cO (k + 1)) {σ μ : tyS} {g : Nat → Int64} {H : Heap} {locs : List Loc} {ls : Array Slot} (hI : Inv k σ μ) (hP : va_P D vwCl (wH ad cA o cO σ g ++ wM am cM μ) H) (hD : va_D (fun q : Nat => s.heap.size ≤ q) (wH ad cA o cO σ g ++ wM am cM μ)) (hS : va_S (fun q : Nat => s.heap.size ≤ q) s.heap H locs) (hl : lv_has ls 7 [(0, .ref b), (1, .ref (ad 0)), (2, .ref (am 0)), (3, .ref o), (4, .int (nI (5 * k)))]) : W p l e room_1 s m #[Value.ref b] below meth c H locs (57 + k) (6494 + 6 * k) (lw_Z below #[Value.ref b] s) (F0 m 1516 ls []) := by
  obtain ⟨⟨hx, hb, hr, hml, hown0, hts0, hX, hbl, hlocks, hgv⟩, hl9, hOK, hNN, hNC, hCL, hK, hKM, hL⟩ := C
  have hown : s.vm.findClass RL = some m.cls := hown0
  have hts : ∀ w ∈ wsL_law, w.before #[Value.ref b] s = true := fun w h => hts0 w (wsL_law_in w h)
  have hS9 : CallFix p m c code 7 s #[.ref b] wsL_law RL := ⟨hx, hb, hml, hown, hts⟩
  have hA : ∀ q : Nat, s.heap.size ≤ q → (fun q : Nat => s.heap.size ≤ q) q := fun _ h => h
  have hbA : ¬ (fun q : Nat => s.heap.size ≤ q) b := Nat.not_le.mpr hbl
  obtain ⟨res, v, μ', eT, eM, ⟨kk, hkk, hth, hv⟩, hI'⟩ := op_trunk hI (by omega) (xs (5 * k + 1)) (xs (5 * k + 2)) (xs (5 * k + 3))
  refine lv_aload_n hx hb dL_law_1516 rfl (lv_at hl 1 rfl) ?_
  refine gz_arg (i := 5 * k) (j := 1) hx hb hX hbl hbA hS (by omega) hL rfl dL_law_1517 dL_law_1518 dL_law_1520 dL_law_1521 dL_law_1522 (lv_at hl 0 rfl) (lv_at hl 4 rfl) ?_
  refine gz_arg (i := 5 * k) (j := 2) hx hb hX hbl hbA hS (by omega) hL rfl dL_law_1523 dL_law_1524 dL_law_1526 dL_law_1527 dL_law_1528 (lv_at hl 0 rfl) (lv_at hl 4 rfl) ?_
  refine gz_arg (i := 5 * k) (j := 3) hx hb hX hbl hbA hS (by omega) hL rfl dL_law_1529 dL_law_1530 dL_law_1532 dL_law_1533 dL_law_1534 (lv_at hl 0 rfl) (lv_at hl 4 rfl) ?_
  refine lv_aload_n hx hb dL_law_1535 rfl (lv_at hl 3 rfl) ?_
  refine gz_H (As := [.ref (ad 0), .int (xs (5 * k + 1)), .int (xs (5 * k + 2)), .int (xs (5 * k + 3)), .ref o]) (rest := []) hS9 (tyh_trunk l hl9 D ad cA o cO H.size σ g (xs (5 * k + 1)) (xs (5 * k + 2)) (xs (5 * k + 3)) res kk eT hkk) (vx_cwSW 5 hts gL_law_L_trunk rfl rfl rfl hd_L_trunk ⟨by decide, by decide⟩) hK hP hD hS hA hNN hOK hNC hCL rfl hl.1 rfl (Nat.le_of_ble_eq_true rfl) dL_law_1536 ⟨by show _ ≤ 1114; omega, by show _ ≤ 14884; omega⟩ (fun g' H locs hg hP hD hS => ?_)
  refine lv_istore (lv' := [(5, .int (nI kk)), (0, .ref b), (1, .ref (ad 0)), (2, .ref (am 0)), (3, .ref o), (4, .int (nI (5 * k)))]) hx hb dL_law_1539 hl (by decide) rfl (fun ls hl => ?_)
  refine lv_aload_n hx hb dL_law_1541 rfl (lv_at hl 3 rfl) ?_
  refine gz_arg (i := 5 * k) (j := 1) hx hb hX hbl hbA hS (by omega) hL rfl dL_law_1542 dL_law_1543 dL_law_1545 dL_law_1546 dL_law_1547 (lv_at hl 1 rfl) (lv_at hl 5 rfl) ?_
  refine gz_arg (i := 5 * k) (j := 2) hx hb hX hbl hbA hS (by omega) hL rfl dL_law_1548 dL_law_1549 dL_law_1551 dL_law_1552 dL_law_1553 (lv_at hl 1 rfl) (lv_at hl 5 rfl) ?_
  refine gz_arg (i := 5 * k) (j := 3) hx hb hX hbl hbA hS (by omega) hL rfl dL_law_1554 dL_law_1555 dL_law_1557 dL_law_1558 dL_law_1559 (lv_at hl 1 rfl) (lv_at hl 5 rfl) ?_
  refine gz_Mi (w := wM am cM) (As := [.int (xs (5 * k + 1)), .int (xs (5 * k + 2)), .int (xs (5 * k + 3))]) (rest := []) hS9 (tyc_M_trunk l D am cM _ μ (xs (5 * k + 1)) (xs (5 * k + 2)) (xs (5 * k + 3)) v μ' eM) (cwV 3 hts gL_law_X5_trunk rfl rfl rfl hd_X5_trunk ⟨by decide, by decide⟩) hKM hP.swp hD.swp hS hA hNN (ci := 5) (q0 := 0) (N := 30) rfl (wM_0 am cM μ) rfl hl.1 rfl (Nat.le_of_ble_eq_true rfl) dL_law_1560 ⟨by show _ ≤ 1114; omega, by show _ ≤ 14884; omega⟩ (fun H locs hP hD hS => ?_)
  refine lv_istore (lv' := [(6, .int v), (5, .int (nI kk)), (0, .ref b), (1, .ref (ad 0)), (2, .ref (am 0)), (3, .ref o), (4, .int (nI (5 * k)))]) hx hb dL_law_1563 hl (by decide) rfl (fun ls hl => ?_)
  refine lv_aload_n hx hb dL_law_1565 rfl (lv_at hl 4 rfl) ?_
  refine gz_Mi (w := wM am cM) (As := []) (rest := []) hS9 (tyc_M_thrown l D am cM _ μ' (μ'.2 0) rfl) (cwV 0 hts gL_law_X5_thrown rfl rfl rfl hd_X5_thrown ⟨by decide, by decide⟩) hKM hP hD hS hA hNN (ci := 5) (q0 := 0) (N := 30) rfl (wM_0 am cM μ') rfl hl.1 rfl (Nat.le_of_ble_eq_true rfl) dL_law_1566 ⟨by show _ ≤ 1114; omega, by show _ ≤ 14884; omega⟩ (fun H locs hP hD hS => ?_)
  refine lv_iload hx hb dL_law_1569 (lv_at hl 1 rfl) ?_
  refine lv_icmp_eq (tgt := 1576) hx hb dL_law_1571 (by decide) (fun _ => ?_) (fun c9 => absurd hth c9)
  refine lv_iload hx hb dL_law_1576 (lv_at hl 1 rfl) ?_
  refine lv_if_ne (tgt := 1593) hx hb dL_law_1578 (by decide) (fun _ => ?_) (fun c8 => ?_)
  · refine lv_goto (tgt := 2130) hx hb dL_law_1593 (by decide) ?_
    refine lv_iinc (v := nI (5 * (k + 1))) (lv' := [(4, .int (nI (5 * (k + 1)))), (6, .int v), (5, .int (nI kk)), (0, .ref b), (1, .ref (ad 0)), (2, .ref (am 0)), (3, .ref o)]) hx hb dL_law_2130 hl (k := 6) rfl (nI_add _ 5) (by decide) rfl (fun ls hl => ?_)
    refine lv_goto (tgt := 23) hx hb dL_law_2133 (by decide) ?_
    refine W.widen (k := 57 + (k + 1)) (n := 6494 + 6 * (k + 1)) (by omega) (by omega) ?_
    exact ih _ μ' g' _ _ _ hI' hP.swp hD.swp hS (lv_sub hl [3, 4, 5, 6, 0] rfl)
  · have h0 := nI_kk hkk (by decide) c8
    have hg := hg h0
    have hv := hv h0
    have hP2 := hP.swp
    refine lv_aload_n hx hb dL_law_1581 rfl (lv_at hl 5 rfl) ?_
    refine lv_iconst (v := 0) hx hb dL_law_1582 (by decide) ?_
    refine va_lald (f := g') hx hb hK hP2 32 26 rfl rfl vp_in_01 dL_law_1583 ?_
    rw [sb_cl0]
    refine lv_iload hx hb dL_law_1584 (lv_at hl 0 rfl) ?_
    refine lv_i2l (v := v.toInt64) hx hb dL_law_1586 rfl ?_
    refine W.lcmp hx hb dL_law_1587 ?_
    refine lv_if_eq (tgt := 1593) hx hb dL_law_1588 (by decide) (fun _ => ?_) (fun c7 => absurd ((lg_cmp_eq _ _).mpr (by rw [hg, hv])) c7)
    refine lv_goto (tgt := 2130) hx hb dL_law_1593 (by decide) ?_
    refine lv_iinc (v := nI (5 * (k + 1))) (lv' := [(4, .int (nI (5 * (k + 1)))), (6, .int v), (5, .int (nI kk)), (0, .ref b), (1, .ref (ad 0)), (2, .ref (am 0)), (3, .ref o)]) hx hb dL_law_2130 hl (k := 6) rfl (nI_add _ 5) (by decide) rfl (fun ls hl => ?_)
    refine lv_goto (tgt := 23) hx hb dL_law_2133 (by decide) ?_
    refine W.widen (k := 57 + (k + 1)) (n := 6494 + 6 * (k + 1)) (by omega) (by omega) ?_
    exact ih _ μ' g' _ _ _ hI' hP.swp hD.swp hS (lv_sub hl [3, 4, 5, 6, 0] rfl)
end LAW
