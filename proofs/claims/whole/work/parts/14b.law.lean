/-- what stands throughout the law's run -/
def LawC (p : Program) (l : Launch) (s : State) (m : MethodId) (meth : Method) (c : Code) (b L : Nat) (xs : Nat → Int32) (D : va_G) (cA cM : Nat → ClassId) (cO : ClassId) : Prop :=
  lw_At p s m meth c b L xs ∧ l.stackTraces = false ∧ gOK gStr (fun q : Nat => s.heap.size ≤ q) s s.heap ∧ gNN s ∧ gNC s ∧ gCL s ∧ va_K D vwCl (tH cA cO) s ∧ va_K D vwCl (tM cM) s ∧ L ≤ 2560
/-- from the loop's head, k calls made, the law comes to its end with true -/
def LoopAt (p : Program) (l : Launch) (e : Env) (s : State) (m : MethodId) (below : List Frame) (meth : Method) (c : Code) (b : Nat) (D : va_G) (ad am : Nat → Nat) (cA cM : Nat → ClassId) (o : Nat) (cO : ClassId) (k : Nat) : Prop :=
  ∀ (σ μ : tyS) (g : Nat → Int64) (H : Heap) (locs : List Loc) (ls : Array Slot), Inv k σ μ → va_P D vwCl (wH ad cA o cO σ g ++ wM am cM μ) H → va_D (fun q : Nat => s.heap.size ≤ q) (wH ad cA o cO σ g ++ wM am cM μ) → va_S (fun q : Nat => s.heap.size ≤ q) s.heap H locs → lv_has ls 7 [(0, .ref b), (1, .ref (ad 0)), (2, .ref (am 0)), (3, .ref o), (4, .int (nI (5 * k)))] → W p l e room_1 s m #[Value.ref b] below meth c H locs (57 + k) (6494 + 6 * k) (lw_Z below #[Value.ref b] s) (F0 m 23 ls [])
/-! ===== the law ===== -/
section LAW
variable {p : Program} {l : Launch} {e : Env} {s : State} {m : MethodId} {below : List Frame} {meth : Method} {c : Code} {b L : Nat} {xs : Nat → Int32} {D : va_G} {ad am : Nat → Nat} {cA cM : Nat → ClassId} {o : Nat} {cO : ClassId}
set_option maxHeartbeats 4000000 in
set_option maxRecDepth 100000 in
theorem law_case_0 (C : LawC p l s m meth c b L xs D cA cM cO) {k : Nat} (hk : 5 * k + 5 ≤ L) (ih : LoopAt p l e s m below meth c b D ad am cA cM o cO (k + 1)) {σ μ : tyS} {g : Nat → Int64} {H : Heap} {locs : List Loc} {ls : Array Slot} (hI : Inv k σ μ) (hP : va_P D vwCl (wH ad cA o cO σ g ++ wM am cM μ) H) (hD : va_D (fun q : Nat => s.heap.size ≤ q) (wH ad cA o cO σ g ++ wM am cM μ)) (hS : va_S (fun q : Nat => s.heap.size ≤ q) s.heap H locs) (hl : lv_has ls 7 [(0, .ref b), (1, .ref (ad 0)), (2, .ref (am 0)), (3, .ref o), (4, .int (nI (5 * k)))]) : W p l e room_1 s m #[Value.ref b] below meth c H locs (57 + k) (6494 + 6 * k) (lw_Z below #[Value.ref b] s) (F0 m 180 ls []) := by
  obtain ⟨⟨hx, hb, hr, hml, hown0, hts0, hX, hbl, hlocks, hgv⟩, hl9, hOK, hNN, hNC, hCL, hK, hKM, hL⟩ := C
  have hown : s.vm.findClass RL = some m.cls := hown0
  have hts : ∀ w ∈ wsL_law, w.before #[Value.ref b] s = true := fun w h => hts0 w (wsL_law_in w h)
  have hS9 : CallFix p m c code 7 s #[.ref b] wsL_law RL := ⟨hx, hb, hml, hown, hts⟩
  have hA : ∀ q : Nat, s.heap.size ≤ q → (fun q : Nat => s.heap.size ≤ q) q := fun _ h => h
  have hbA : ¬ (fun q : Nat => s.heap.size ≤ q) b := Nat.not_le.mpr hbl
  obtain ⟨res, v, μ', eT, eM, ⟨kk, hkk, hth, hv⟩, hI'⟩ := op_wagon hI (by omega) (xs (5 * k + 1)) (xs (5 * k + 2))
  refine lv_aload_n hx hb dL_law_180 rfl (lv_at hl 1 rfl) ?_
  refine gz_arg (i := 5 * k) (j := 1) hx hb hX hbl hbA hS (by omega) hL rfl dL_law_181 dL_law_182 dL_law_184 dL_law_185 dL_law_186 (lv_at hl 0 rfl) (lv_at hl 4 rfl) ?_
  refine gz_arg (i := 5 * k) (j := 2) hx hb hX hbl hbA hS (by omega) hL rfl dL_law_187 dL_law_188 dL_law_190 dL_law_191 dL_law_192 (lv_at hl 0 rfl) (lv_at hl 4 rfl) ?_
  refine lv_aload_n hx hb dL_law_193 rfl (lv_at hl 3 rfl) ?_
  refine gz_H (As := [.ref (ad 0), .int (xs (5 * k + 1)), .int (xs (5 * k + 2)), .ref o]) (rest := []) hS9 (tyh_wagon l hl9 D ad cA o cO H.size σ g (xs (5 * k + 1)) (xs (5 * k + 2)) res kk eT hkk) (vx_cwSW 4 hts gL_law_L_wagon rfl rfl rfl hd_L_wagon ⟨by decide, by decide⟩) hK hP hD hS hA hNN hOK hNC hCL rfl hl.1 rfl (Nat.le_of_ble_eq_true rfl) dL_law_194 ⟨by show _ ≤ 1114; omega, by show _ ≤ 14884; omega⟩ (fun g' H locs hg hP hD hS => ?_)
  refine lv_istore (lv' := [(5, .int (nI kk)), (0, .ref b), (1, .ref (ad 0)), (2, .ref (am 0)), (3, .ref o), (4, .int (nI (5 * k)))]) hx hb dL_law_197 hl (by decide) rfl (fun ls hl => ?_)
  refine lv_aload_n hx hb dL_law_199 rfl (lv_at hl 3 rfl) ?_
  refine gz_arg (i := 5 * k) (j := 1) hx hb hX hbl hbA hS (by omega) hL rfl dL_law_200 dL_law_201 dL_law_203 dL_law_204 dL_law_205 (lv_at hl 1 rfl) (lv_at hl 5 rfl) ?_
  refine gz_arg (i := 5 * k) (j := 2) hx hb hX hbl hbA hS (by omega) hL rfl dL_law_206 dL_law_207 dL_law_209 dL_law_210 dL_law_211 (lv_at hl 1 rfl) (lv_at hl 5 rfl) ?_
  refine gz_Mi (w := wM am cM) (As := [.int (xs (5 * k + 1)), .int (xs (5 * k + 2))]) (rest := []) hS9 (tyc_M_wagon l D am cM _ μ (xs (5 * k + 1)) (xs (5 * k + 2)) v μ' eM) (cwV 2 hts gL_law_X5_wagon rfl rfl rfl hd_X5_wagon ⟨by decide, by decide⟩) hKM hP.swp hD.swp hS hA hNN (ci := 5) (q0 := 0) (N := 30) rfl (wM_0 am cM μ) rfl hl.1 rfl (Nat.le_of_ble_eq_true rfl) dL_law_212 ⟨by show _ ≤ 1114; omega, by show _ ≤ 14884; omega⟩ (fun H locs hP hD hS => ?_)
  refine lv_istore (lv' := [(6, .int v), (5, .int (nI kk)), (0, .ref b), (1, .ref (ad 0)), (2, .ref (am 0)), (3, .ref o), (4, .int (nI (5 * k)))]) hx hb dL_law_215 hl (by decide) rfl (fun ls hl => ?_)
  refine lv_aload_n hx hb dL_law_217 rfl (lv_at hl 4 rfl) ?_
  refine gz_Mi (w := wM am cM) (As := []) (rest := []) hS9 (tyc_M_thrown l D am cM _ μ' (μ'.2 0) rfl) (cwV 0 hts gL_law_X5_thrown rfl rfl rfl hd_X5_thrown ⟨by decide, by decide⟩) hKM hP hD hS hA hNN (ci := 5) (q0 := 0) (N := 30) rfl (wM_0 am cM μ') rfl hl.1 rfl (Nat.le_of_ble_eq_true rfl) dL_law_218 ⟨by show _ ≤ 1114; omega, by show _ ≤ 14884; omega⟩ (fun H locs hP hD hS => ?_)
  refine lv_iload hx hb dL_law_221 (lv_at hl 1 rfl) ?_
  refine lv_icmp_eq (tgt := 228) hx hb dL_law_223 (by decide) (fun _ => ?_) (fun c9 => absurd hth c9)
  refine lv_iload hx hb dL_law_228 (lv_at hl 1 rfl) ?_
  refine lv_if_ne (tgt := 245) hx hb dL_law_230 (by decide) (fun _ => ?_) (fun c8 => ?_)
  · refine lv_goto (tgt := 2130) hx hb dL_law_245 (by decide) ?_
    refine lv_iinc (v := nI (5 * (k + 1))) (lv' := [(4, .int (nI (5 * (k + 1)))), (6, .int v), (5, .int (nI kk)), (0, .ref b), (1, .ref (ad 0)), (2, .ref (am 0)), (3, .ref o)]) hx hb dL_law_2130 hl (k := 6) rfl (nI_add _ 5) (by decide) rfl (fun ls hl => ?_)
    refine lv_goto (tgt := 23) hx hb dL_law_2133 (by decide) ?_
    refine W.widen (k := 57 + (k + 1)) (n := 6494 + 6 * (k + 1)) (by omega) (by omega) ?_
    exact ih _ μ' g' _ _ _ hI' hP.swp hD.swp hS (lv_sub hl [3, 4, 5, 6, 0] rfl)
  · have h0 := nI_kk hkk (by decide) c8
    have hg := hg h0
    have hv := hv h0
    have hP2 := hP.swp
    refine lv_aload_n hx hb dL_law_233 rfl (lv_at hl 5 rfl) ?_
    refine lv_iconst (v := 0) hx hb dL_law_234 (by decide) ?_
    refine va_lald (f := g') hx hb hK hP2 32 26 rfl rfl vp_in_01 dL_law_235 ?_
    rw [sb_cl0]
    refine lv_iload hx hb dL_law_236 (lv_at hl 0 rfl) ?_
    refine lv_i2l (v := v.toInt64) hx hb dL_law_238 rfl ?_
    refine W.lcmp hx hb dL_law_239 ?_
    refine lv_if_eq (tgt := 245) hx hb dL_law_240 (by decide) (fun _ => ?_) (fun c7 => absurd ((lg_cmp_eq _ _).mpr (by rw [hg, hv])) c7)
    refine lv_goto (tgt := 2130) hx hb dL_law_245 (by decide) ?_
    refine lv_iinc (v := nI (5 * (k + 1))) (lv' := [(4, .int (nI (5 * (k + 1)))), (6, .int v), (5, .int (nI kk)), (0, .ref b), (1, .ref (ad 0)), (2, .ref (am 0)), (3, .ref o)]) hx hb dL_law_2130 hl (k := 6) rfl (nI_add _ 5) (by decide) rfl (fun ls hl => ?_)
    refine lv_goto (tgt := 23) hx hb dL_law_2133 (by decide) ?_
    refine W.widen (k := 57 + (k + 1)) (n := 6494 + 6 * (k + 1)) (by omega) (by omega) ?_
    exact ih _ μ' g' _ _ _ hI' hP.swp hD.swp hS (lv_sub hl [3, 4, 5, 6, 0] rfl)
set_option maxHeartbeats 4000000 in
set_option maxRecDepth 100000 in
theorem law_case_1 (C : LawC p l s m meth c b L xs D cA cM cO) {k : Nat} (hk : 5 * k + 5 ≤ L) (ih : LoopAt p l e s m below meth c b D ad am cA cM o cO (k + 1)) {σ μ : tyS} {g : Nat → Int64} {H : Heap} {locs : List Loc} {ls : Array Slot} (hI : Inv k σ μ) (hP : va_P D vwCl (wH ad cA o cO σ g ++ wM am cM μ) H) (hD : va_D (fun q : Nat => s.heap.size ≤ q) (wH ad cA o cO σ g ++ wM am cM μ)) (hS : va_S (fun q : Nat => s.heap.size ≤ q) s.heap H locs) (hl : lv_has ls 7 [(0, .ref b), (1, .ref (ad 0)), (2, .ref (am 0)), (3, .ref o), (4, .int (nI (5 * k)))]) : W p l e room_1 s m #[Value.ref b] below meth c H locs (57 + k) (6494 + 6 * k) (lw_Z below #[Value.ref b] s) (F0 m 248 ls []) := by
  obtain ⟨⟨hx, hb, hr, hml, hown0, hts0, hX, hbl, hlocks, hgv⟩, hl9, hOK, hNN, hNC, hCL, hK, hKM, hL⟩ := C
  have hown : s.vm.findClass RL = some m.cls := hown0
  have hts : ∀ w ∈ wsL_law, w.before #[Value.ref b] s = true := fun w h => hts0 w (wsL_law_in w h)
  have hS9 : CallFix p m c code 7 s #[.ref b] wsL_law RL := ⟨hx, hb, hml, hown, hts⟩
  have hA : ∀ q : Nat, s.heap.size ≤ q → (fun q : Nat => s.heap.size ≤ q) q := fun _ h => h
  have hbA : ¬ (fun q : Nat => s.heap.size ≤ q) b := Nat.not_le.mpr hbl
  obtain ⟨res, v, μ', eT, eM, ⟨kk, hkk, hth, hv⟩, hI'⟩ := op_shunt hI (by omega) (xs (5 * k + 1)) (xs (5 * k + 2)) (xs (5 * k + 3)) (xs (5 * k + 4))
  refine lv_aload_n hx hb dL_law_248 rfl (lv_at hl 1 rfl) ?_
  refine gz_arg (i := 5 * k) (j := 1) hx hb hX hbl hbA hS (by omega) hL rfl dL_law_249 dL_law_250 dL_law_252 dL_law_253 dL_law_254 (lv_at hl 0 rfl) (lv_at hl 4 rfl) ?_
  refine gz_arg (i := 5 * k) (j := 2) hx hb hX hbl hbA hS (by omega) hL rfl dL_law_255 dL_law_256 dL_law_258 dL_law_259 dL_law_260 (lv_at hl 0 rfl) (lv_at hl 4 rfl) ?_
  refine gz_arg (i := 5 * k) (j := 3) hx hb hX hbl hbA hS (by omega) hL rfl dL_law_261 dL_law_262 dL_law_264 dL_law_265 dL_law_266 (lv_at hl 0 rfl) (lv_at hl 4 rfl) ?_
  refine gz_arg (i := 5 * k) (j := 4) hx hb hX hbl hbA hS (by omega) hL rfl dL_law_267 dL_law_268 dL_law_270 dL_law_271 dL_law_272 (lv_at hl 0 rfl) (lv_at hl 4 rfl) ?_
  refine lv_aload_n hx hb dL_law_273 rfl (lv_at hl 3 rfl) ?_
  refine gz_H (As := [.ref (ad 0), .int (xs (5 * k + 1)), .int (xs (5 * k + 2)), .int (xs (5 * k + 3)), .int (xs (5 * k + 4)), .ref o]) (rest := []) hS9 (tyh_shunt l hl9 D ad cA o cO H.size σ g (xs (5 * k + 1)) (xs (5 * k + 2)) (xs (5 * k + 3)) (xs (5 * k + 4)) res kk eT hkk) (vx_cwSW 6 hts gL_law_L_shunt rfl rfl rfl hd_L_shunt ⟨by decide, by decide⟩) hK hP hD hS hA hNN hOK hNC hCL rfl hl.1 rfl (Nat.le_of_ble_eq_true rfl) dL_law_274 ⟨by show _ ≤ 1114; omega, by show _ ≤ 14884; omega⟩ (fun g' H locs hg hP hD hS => ?_)
  refine lv_istore (lv' := [(5, .int (nI kk)), (0, .ref b), (1, .ref (ad 0)), (2, .ref (am 0)), (3, .ref o), (4, .int (nI (5 * k)))]) hx hb dL_law_277 hl (by decide) rfl (fun ls hl => ?_)
  refine lv_aload_n hx hb dL_law_279 rfl (lv_at hl 3 rfl) ?_
  refine gz_arg (i := 5 * k) (j := 1) hx hb hX hbl hbA hS (by omega) hL rfl dL_law_280 dL_law_281 dL_law_283 dL_law_284 dL_law_285 (lv_at hl 1 rfl) (lv_at hl 5 rfl) ?_
  refine gz_arg (i := 5 * k) (j := 2) hx hb hX hbl hbA hS (by omega) hL rfl dL_law_286 dL_law_287 dL_law_289 dL_law_290 dL_law_291 (lv_at hl 1 rfl) (lv_at hl 5 rfl) ?_
  refine gz_arg (i := 5 * k) (j := 3) hx hb hX hbl hbA hS (by omega) hL rfl dL_law_292 dL_law_293 dL_law_295 dL_law_296 dL_law_297 (lv_at hl 1 rfl) (lv_at hl 5 rfl) ?_
  refine gz_arg (i := 5 * k) (j := 4) hx hb hX hbl hbA hS (by omega) hL rfl dL_law_298 dL_law_299 dL_law_301 dL_law_302 dL_law_303 (lv_at hl 1 rfl) (lv_at hl 5 rfl) ?_
  refine gz_Mi (w := wM am cM) (As := [.int (xs (5 * k + 1)), .int (xs (5 * k + 2)), .int (xs (5 * k + 3)), .int (xs (5 * k + 4))]) (rest := []) hS9 (tyc_M_shunt l D am cM _ μ (xs (5 * k + 1)) (xs (5 * k + 2)) (xs (5 * k + 3)) (xs (5 * k + 4)) v μ' eM) (cwV 4 hts gL_law_X5_shunt rfl rfl rfl hd_X5_shunt ⟨by decide, by decide⟩) hKM hP.swp hD.swp hS hA hNN (ci := 5) (q0 := 0) (N := 30) rfl (wM_0 am cM μ) rfl hl.1 rfl (Nat.le_of_ble_eq_true rfl) dL_law_304 ⟨by show _ ≤ 1114; omega, by show _ ≤ 14884; omega⟩ (fun H locs hP hD hS => ?_)
  refine lv_istore (lv' := [(6, .int v), (5, .int (nI kk)), (0, .ref b), (1, .ref (ad 0)), (2, .ref (am 0)), (3, .ref o), (4, .int (nI (5 * k)))]) hx hb dL_law_307 hl (by decide) rfl (fun ls hl => ?_)
  refine lv_aload_n hx hb dL_law_309 rfl (lv_at hl 4 rfl) ?_
  refine gz_Mi (w := wM am cM) (As := []) (rest := []) hS9 (tyc_M_thrown l D am cM _ μ' (μ'.2 0) rfl) (cwV 0 hts gL_law_X5_thrown rfl rfl rfl hd_X5_thrown ⟨by decide, by decide⟩) hKM hP hD hS hA hNN (ci := 5) (q0 := 0) (N := 30) rfl (wM_0 am cM μ') rfl hl.1 rfl (Nat.le_of_ble_eq_true rfl) dL_law_310 ⟨by show _ ≤ 1114; omega, by show _ ≤ 14884; omega⟩ (fun H locs hP hD hS => ?_)
  refine lv_iload hx hb dL_law_313 (lv_at hl 1 rfl) ?_
  refine lv_icmp_eq (tgt := 320) hx hb dL_law_315 (by decide) (fun _ => ?_) (fun c9 => absurd hth c9)
  refine lv_iload hx hb dL_law_320 (lv_at hl 1 rfl) ?_
  refine lv_if_ne (tgt := 337) hx hb dL_law_322 (by decide) (fun _ => ?_) (fun c8 => ?_)
  · refine lv_goto (tgt := 2130) hx hb dL_law_337 (by decide) ?_
    refine lv_iinc (v := nI (5 * (k + 1))) (lv' := [(4, .int (nI (5 * (k + 1)))), (6, .int v), (5, .int (nI kk)), (0, .ref b), (1, .ref (ad 0)), (2, .ref (am 0)), (3, .ref o)]) hx hb dL_law_2130 hl (k := 6) rfl (nI_add _ 5) (by decide) rfl (fun ls hl => ?_)
    refine lv_goto (tgt := 23) hx hb dL_law_2133 (by decide) ?_
    refine W.widen (k := 57 + (k + 1)) (n := 6494 + 6 * (k + 1)) (by omega) (by omega) ?_
    exact ih _ μ' g' _ _ _ hI' hP.swp hD.swp hS (lv_sub hl [3, 4, 5, 6, 0] rfl)
  · have h0 := nI_kk hkk (by decide) c8
    have hg := hg h0
    have hv := hv h0
    have hP2 := hP.swp
    refine lv_aload_n hx hb dL_law_325 rfl (lv_at hl 5 rfl) ?_
    refine lv_iconst (v := 0) hx hb dL_law_326 (by decide) ?_
    refine va_lald (f := g') hx hb hK hP2 32 26 rfl rfl vp_in_01 dL_law_327 ?_
    rw [sb_cl0]
    refine lv_iload hx hb dL_law_328 (lv_at hl 0 rfl) ?_
    refine lv_i2l (v := v.toInt64) hx hb dL_law_330 rfl ?_
    refine W.lcmp hx hb dL_law_331 ?_
    refine lv_if_eq (tgt := 337) hx hb dL_law_332 (by decide) (fun _ => ?_) (fun c7 => absurd ((lg_cmp_eq _ _).mpr (by rw [hg, hv])) c7)
    refine lv_goto (tgt := 2130) hx hb dL_law_337 (by decide) ?_
    refine lv_iinc (v := nI (5 * (k + 1))) (lv' := [(4, .int (nI (5 * (k + 1)))), (6, .int v), (5, .int (nI kk)), (0, .ref b), (1, .ref (ad 0)), (2, .ref (am 0)), (3, .ref o)]) hx hb dL_law_2130 hl (k := 6) rfl (nI_add _ 5) (by decide) rfl (fun ls hl => ?_)
    refine lv_goto (tgt := 23) hx hb dL_law_2133 (by decide) ?_
    refine W.widen (k := 57 + (k + 1)) (n := 6494 + 6 * (k + 1)) (by omega) (by omega) ?_
    exact ih _ μ' g' _ _ _ hI' hP.swp hD.swp hS (lv_sub hl [3, 4, 5, 6, 0] rfl)
set_option maxHeartbeats 4000000 in
set_option maxRecDepth 100000 in
theorem law_case_2 (C : LawC p l s m meth c b L xs D cA cM cO) {k : Nat} (hk : 5 * k + 5 ≤ L) (ih : LoopAt p l e s m below meth c b D ad am cA cM o cO (k + 1)) {σ μ : tyS} {g : Nat → Int64} {H : Heap} {locs : List Loc} {ls : Array Slot} (hI : Inv k σ μ) (hP : va_P D vwCl (wH ad cA o cO σ g ++ wM am cM μ) H) (hD : va_D (fun q : Nat => s.heap.size ≤ q) (wH ad cA o cO σ g ++ wM am cM μ)) (hS : va_S (fun q : Nat => s.heap.size ≤ q) s.heap H locs) (hl : lv_has ls 7 [(0, .ref b), (1, .ref (ad 0)), (2, .ref (am 0)), (3, .ref o), (4, .int (nI (5 * k)))]) : W p l e room_1 s m #[Value.ref b] below meth c H locs (57 + k) (6494 + 6 * k) (lw_Z below #[Value.ref b] s) (F0 m 340 ls []) := by
  obtain ⟨⟨hx, hb, hr, hml, hown0, hts0, hX, hbl, hlocks, hgv⟩, hl9, hOK, hNN, hNC, hCL, hK, hKM, hL⟩ := C
  have hown : s.vm.findClass RL = some m.cls := hown0
  have hts : ∀ w ∈ wsL_law, w.before #[Value.ref b] s = true := fun w h => hts0 w (wsL_law_in w h)
  have hS9 : CallFix p m c code 7 s #[.ref b] wsL_law RL := ⟨hx, hb, hml, hown, hts⟩
  have hA : ∀ q : Nat, s.heap.size ≤ q → (fun q : Nat => s.heap.size ≤ q) q := fun _ h => h
  have hbA : ¬ (fun q : Nat => s.heap.size ≤ q) b := Nat.not_le.mpr hbl
  obtain ⟨res, v, μ', eT, eM, ⟨kk, hkk, hth, hv⟩, hI'⟩ := op_wash hI (by omega) (xs (5 * k + 1))
  refine lv_aload_n hx hb dL_law_340 rfl (lv_at hl 1 rfl) ?_
  refine gz_arg (i := 5 * k) (j := 1) hx hb hX hbl hbA hS (by omega) hL rfl dL_law_341 dL_law_342 dL_law_344 dL_law_345 dL_law_346 (lv_at hl 0 rfl) (lv_at hl 4 rfl) ?_
  refine lv_aload_n hx hb dL_law_347 rfl (lv_at hl 3 rfl) ?_
  refine gz_H (As := [.ref (ad 0), .int (xs (5 * k + 1)), .ref o]) (rest := []) hS9 (tyh_wash l hl9 D ad cA o cO H.size σ g (xs (5 * k + 1)) res kk eT hkk) (vx_cwSW 3 hts gL_law_L_wash rfl rfl rfl hd_L_wash ⟨by decide, by decide⟩) hK hP hD hS hA hNN hOK hNC hCL rfl hl.1 rfl (Nat.le_of_ble_eq_true rfl) dL_law_348 ⟨by show _ ≤ 1114; omega, by show _ ≤ 14884; omega⟩ (fun g' H locs hg hP hD hS => ?_)
  refine lv_istore (lv' := [(5, .int (nI kk)), (0, .ref b), (1, .ref (ad 0)), (2, .ref (am 0)), (3, .ref o), (4, .int (nI (5 * k)))]) hx hb dL_law_351 hl (by decide) rfl (fun ls hl => ?_)
  refine lv_aload_n hx hb dL_law_353 rfl (lv_at hl 3 rfl) ?_
  refine gz_arg (i := 5 * k) (j := 1) hx hb hX hbl hbA hS (by omega) hL rfl dL_law_354 dL_law_355 dL_law_357 dL_law_358 dL_law_359 (lv_at hl 1 rfl) (lv_at hl 5 rfl) ?_
  refine gz_Mi (w := wM am cM) (As := [.int (xs (5 * k + 1))]) (rest := []) hS9 (tyc_M_wash l D am cM _ μ (xs (5 * k + 1)) v μ' eM) (cwV 1 hts gL_law_X5_wash rfl rfl rfl hd_X5_wash ⟨by decide, by decide⟩) hKM hP.swp hD.swp hS hA hNN (ci := 5) (q0 := 0) (N := 30) rfl (wM_0 am cM μ) rfl hl.1 rfl (Nat.le_of_ble_eq_true rfl) dL_law_360 ⟨by show _ ≤ 1114; omega, by show _ ≤ 14884; omega⟩ (fun H locs hP hD hS => ?_)
  refine lv_istore (lv' := [(6, .int v), (5, .int (nI kk)), (0, .ref b), (1, .ref (ad 0)), (2, .ref (am 0)), (3, .ref o), (4, .int (nI (5 * k)))]) hx hb dL_law_363 hl (by decide) rfl (fun ls hl => ?_)
  refine lv_aload_n hx hb dL_law_365 rfl (lv_at hl 4 rfl) ?_
  refine gz_Mi (w := wM am cM) (As := []) (rest := []) hS9 (tyc_M_thrown l D am cM _ μ' (μ'.2 0) rfl) (cwV 0 hts gL_law_X5_thrown rfl rfl rfl hd_X5_thrown ⟨by decide, by decide⟩) hKM hP hD hS hA hNN (ci := 5) (q0 := 0) (N := 30) rfl (wM_0 am cM μ') rfl hl.1 rfl (Nat.le_of_ble_eq_true rfl) dL_law_366 ⟨by show _ ≤ 1114; omega, by show _ ≤ 14884; omega⟩ (fun H locs hP hD hS => ?_)
  refine lv_iload hx hb dL_law_369 (lv_at hl 1 rfl) ?_
  refine lv_icmp_eq (tgt := 376) hx hb dL_law_371 (by decide) (fun _ => ?_) (fun c9 => absurd hth c9)
  refine lv_iload hx hb dL_law_376 (lv_at hl 1 rfl) ?_
  refine lv_if_ne (tgt := 393) hx hb dL_law_378 (by decide) (fun _ => ?_) (fun c8 => ?_)
  · refine lv_goto (tgt := 2130) hx hb dL_law_393 (by decide) ?_
    refine lv_iinc (v := nI (5 * (k + 1))) (lv' := [(4, .int (nI (5 * (k + 1)))), (6, .int v), (5, .int (nI kk)), (0, .ref b), (1, .ref (ad 0)), (2, .ref (am 0)), (3, .ref o)]) hx hb dL_law_2130 hl (k := 6) rfl (nI_add _ 5) (by decide) rfl (fun ls hl => ?_)
    refine lv_goto (tgt := 23) hx hb dL_law_2133 (by decide) ?_
    refine W.widen (k := 57 + (k + 1)) (n := 6494 + 6 * (k + 1)) (by omega) (by omega) ?_
    exact ih _ μ' g' _ _ _ hI' hP.swp hD.swp hS (lv_sub hl [3, 4, 5, 6, 0] rfl)
  · have h0 := nI_kk hkk (by decide) c8
    have hg := hg h0
    have hv := hv h0
    have hP2 := hP.swp
    refine lv_aload_n hx hb dL_law_381 rfl (lv_at hl 5 rfl) ?_
    refine lv_iconst (v := 0) hx hb dL_law_382 (by decide) ?_
    refine va_lald (f := g') hx hb hK hP2 32 26 rfl rfl vp_in_01 dL_law_383 ?_
    rw [sb_cl0]
    refine lv_iload hx hb dL_law_384 (lv_at hl 0 rfl) ?_
    refine lv_i2l (v := v.toInt64) hx hb dL_law_386 rfl ?_
    refine W.lcmp hx hb dL_law_387 ?_
    refine lv_if_eq (tgt := 393) hx hb dL_law_388 (by decide) (fun _ => ?_) (fun c7 => absurd ((lg_cmp_eq _ _).mpr (by rw [hg, hv])) c7)
    refine lv_goto (tgt := 2130) hx hb dL_law_393 (by decide) ?_
    refine lv_iinc (v := nI (5 * (k + 1))) (lv' := [(4, .int (nI (5 * (k + 1)))), (6, .int v), (5, .int (nI kk)), (0, .ref b), (1, .ref (ad 0)), (2, .ref (am 0)), (3, .ref o)]) hx hb dL_law_2130 hl (k := 6) rfl (nI_add _ 5) (by decide) rfl (fun ls hl => ?_)
    refine lv_goto (tgt := 23) hx hb dL_law_2133 (by decide) ?_
    refine W.widen (k := 57 + (k + 1)) (n := 6494 + 6 * (k + 1)) (by omega) (by omega) ?_
    exact ih _ μ' g' _ _ _ hI' hP.swp hD.swp hS (lv_sub hl [3, 4, 5, 6, 0] rfl)
set_option maxHeartbeats 4000000 in
set_option maxRecDepth 100000 in
theorem law_case_3 (C : LawC p l s m meth c b L xs D cA cM cO) {k : Nat} (hk : 5 * k + 5 ≤ L) (ih : LoopAt p l e s m below meth c b D ad am cA cM o cO (k + 1)) {σ μ : tyS} {g : Nat → Int64} {H : Heap} {locs : List Loc} {ls : Array Slot} (hI : Inv k σ μ) (hP : va_P D vwCl (wH ad cA o cO σ g ++ wM am cM μ) H) (hD : va_D (fun q : Nat => s.heap.size ≤ q) (wH ad cA o cO σ g ++ wM am cM μ)) (hS : va_S (fun q : Nat => s.heap.size ≤ q) s.heap H locs) (hl : lv_has ls 7 [(0, .ref b), (1, .ref (ad 0)), (2, .ref (am 0)), (3, .ref o), (4, .int (nI (5 * k)))]) : W p l e room_1 s m #[Value.ref b] below meth c H locs (57 + k) (6494 + 6 * k) (lw_Z below #[Value.ref b] s) (F0 m 396 ls []) := by
  obtain ⟨⟨hx, hb, hr, hml, hown0, hts0, hX, hbl, hlocks, hgv⟩, hl9, hOK, hNN, hNC, hCL, hK, hKM, hL⟩ := C
  have hown : s.vm.findClass RL = some m.cls := hown0
  have hts : ∀ w ∈ wsL_law, w.before #[Value.ref b] s = true := fun w h => hts0 w (wsL_law_in w h)
  have hS9 : CallFix p m c code 7 s #[.ref b] wsL_law RL := ⟨hx, hb, hml, hown, hts⟩
  have hA : ∀ q : Nat, s.heap.size ≤ q → (fun q : Nat => s.heap.size ≤ q) q := fun _ h => h
  have hbA : ¬ (fun q : Nat => s.heap.size ≤ q) b := Nat.not_le.mpr hbl
  obtain ⟨res, v, μ', eT, eM, ⟨kk, hkk, hth, hv⟩, hI'⟩ := op_follow hI (by omega) (xs (5 * k + 1)) (xs (5 * k + 2))
  refine lv_aload_n hx hb dL_law_396 rfl (lv_at hl 1 rfl) ?_
  refine gz_arg (i := 5 * k) (j := 1) hx hb hX hbl hbA hS (by omega) hL rfl dL_law_397 dL_law_398 dL_law_400 dL_law_401 dL_law_402 (lv_at hl 0 rfl) (lv_at hl 4 rfl) ?_
  refine gz_arg (i := 5 * k) (j := 2) hx hb hX hbl hbA hS (by omega) hL rfl dL_law_403 dL_law_404 dL_law_406 dL_law_407 dL_law_408 (lv_at hl 0 rfl) (lv_at hl 4 rfl) ?_
  refine lv_aload_n hx hb dL_law_409 rfl (lv_at hl 3 rfl) ?_
  refine gz_H (As := [.ref (ad 0), .int (xs (5 * k + 1)), .int (xs (5 * k + 2)), .ref o]) (rest := []) hS9 (tyh_follow l hl9 D ad cA o cO H.size σ g (xs (5 * k + 1)) (xs (5 * k + 2)) res kk eT hkk) (vx_cwSW 4 hts gL_law_L_follow rfl rfl rfl hd_L_follow ⟨by decide, by decide⟩) hK hP hD hS hA hNN hOK hNC hCL rfl hl.1 rfl (Nat.le_of_ble_eq_true rfl) dL_law_410 ⟨by show _ ≤ 1114; omega, by show _ ≤ 14884; omega⟩ (fun g' H locs hg hP hD hS => ?_)
  refine lv_istore (lv' := [(5, .int (nI kk)), (0, .ref b), (1, .ref (ad 0)), (2, .ref (am 0)), (3, .ref o), (4, .int (nI (5 * k)))]) hx hb dL_law_413 hl (by decide) rfl (fun ls hl => ?_)
  refine lv_aload_n hx hb dL_law_415 rfl (lv_at hl 3 rfl) ?_
  refine gz_arg (i := 5 * k) (j := 1) hx hb hX hbl hbA hS (by omega) hL rfl dL_law_416 dL_law_417 dL_law_419 dL_law_420 dL_law_421 (lv_at hl 1 rfl) (lv_at hl 5 rfl) ?_
  refine gz_arg (i := 5 * k) (j := 2) hx hb hX hbl hbA hS (by omega) hL rfl dL_law_422 dL_law_423 dL_law_425 dL_law_426 dL_law_427 (lv_at hl 1 rfl) (lv_at hl 5 rfl) ?_
  refine gz_Mi (w := wM am cM) (As := [.int (xs (5 * k + 1)), .int (xs (5 * k + 2))]) (rest := []) hS9 (tyc_M_follow l D am cM _ μ (xs (5 * k + 1)) (xs (5 * k + 2)) v μ' eM) (cwV 2 hts gL_law_X5_follow rfl rfl rfl hd_X5_follow ⟨by decide, by decide⟩) hKM hP.swp hD.swp hS hA hNN (ci := 5) (q0 := 0) (N := 30) rfl (wM_0 am cM μ) rfl hl.1 rfl (Nat.le_of_ble_eq_true rfl) dL_law_428 ⟨by show _ ≤ 1114; omega, by show _ ≤ 14884; omega⟩ (fun H locs hP hD hS => ?_)
  refine lv_istore (lv' := [(6, .int v), (5, .int (nI kk)), (0, .ref b), (1, .ref (ad 0)), (2, .ref (am 0)), (3, .ref o), (4, .int (nI (5 * k)))]) hx hb dL_law_431 hl (by decide) rfl (fun ls hl => ?_)
  refine lv_aload_n hx hb dL_law_433 rfl (lv_at hl 4 rfl) ?_
  refine gz_Mi (w := wM am cM) (As := []) (rest := []) hS9 (tyc_M_thrown l D am cM _ μ' (μ'.2 0) rfl) (cwV 0 hts gL_law_X5_thrown rfl rfl rfl hd_X5_thrown ⟨by decide, by decide⟩) hKM hP hD hS hA hNN (ci := 5) (q0 := 0) (N := 30) rfl (wM_0 am cM μ') rfl hl.1 rfl (Nat.le_of_ble_eq_true rfl) dL_law_434 ⟨by show _ ≤ 1114; omega, by show _ ≤ 14884; omega⟩ (fun H locs hP hD hS => ?_)
  refine lv_iload hx hb dL_law_437 (lv_at hl 1 rfl) ?_
  refine lv_icmp_eq (tgt := 444) hx hb dL_law_439 (by decide) (fun _ => ?_) (fun c9 => absurd hth c9)
  refine lv_iload hx hb dL_law_444 (lv_at hl 1 rfl) ?_
  refine lv_if_ne (tgt := 468) hx hb dL_law_446 (by decide) (fun _ => ?_) (fun c8 => ?_)
  · refine lv_goto (tgt := 2130) hx hb dL_law_468 (by decide) ?_
    refine lv_iinc (v := nI (5 * (k + 1))) (lv' := [(4, .int (nI (5 * (k + 1)))), (6, .int v), (5, .int (nI kk)), (0, .ref b), (1, .ref (ad 0)), (2, .ref (am 0)), (3, .ref o)]) hx hb dL_law_2130 hl (k := 6) rfl (nI_add _ 5) (by decide) rfl (fun ls hl => ?_)
    refine lv_goto (tgt := 23) hx hb dL_law_2133 (by decide) ?_
    refine W.widen (k := 57 + (k + 1)) (n := 6494 + 6 * (k + 1)) (by omega) (by omega) ?_
    exact ih _ μ' g' _ _ _ hI' hP.swp hD.swp hS (lv_sub hl [3, 4, 5, 6, 0] rfl)
  · have h0 := nI_kk hkk (by decide) c8
    have hg := hg h0
    have hv := hv h0
    have hP2 := hP.swp
    refine lv_aload_n hx hb dL_law_449 rfl (lv_at hl 5 rfl) ?_
    refine lv_iconst (v := 0) hx hb dL_law_450 (by decide) ?_
    refine va_lald (f := g') hx hb hK hP2 32 26 rfl rfl vp_in_01 dL_law_451 ?_
    rw [sb_cl0]
    refine lv_iload hx hb dL_law_452 (lv_at hl 0 rfl) ?_
    refine lv_if_eq (tgt := 461) hx hb dL_law_454 (by decide) (fun c6 => ?_) (fun c6 => ?_)
    · refine lv_lconst (v := 0) hx hb dL_law_461 rfl ?_
      refine W.lcmp hx hb dL_law_462 ?_
      refine lv_if_eq (tgt := 468) hx hb dL_law_463 (by decide) (fun _ => ?_) (fun c7 => absurd ((lg_cmp_eq _ _).mpr (by rw [hg, hv, if_pos c6])) c7)
      refine lv_goto (tgt := 2130) hx hb dL_law_468 (by decide) ?_
      refine lv_iinc (v := nI (5 * (k + 1))) (lv' := [(4, .int (nI (5 * (k + 1)))), (6, .int v), (5, .int (nI kk)), (0, .ref b), (1, .ref (ad 0)), (2, .ref (am 0)), (3, .ref o)]) hx hb dL_law_2130 hl (k := 6) rfl (nI_add _ 5) (by decide) rfl (fun ls hl => ?_)
      refine lv_goto (tgt := 23) hx hb dL_law_2133 (by decide) ?_
      refine W.widen (k := 57 + (k + 1)) (n := 6494 + 6 * (k + 1)) (by omega) (by omega) ?_
      exact ih _ μ' g' _ _ _ hI' hP.swp hD.swp hS (lv_sub hl [3, 4, 5, 6, 0] rfl)
    · refine lv_lconst (v := 1) hx hb dL_law_457 rfl ?_
      refine lv_goto (tgt := 462) hx hb dL_law_458 (by decide) ?_
      refine W.lcmp hx hb dL_law_462 ?_
      refine lv_if_eq (tgt := 468) hx hb dL_law_463 (by decide) (fun _ => ?_) (fun c7 => absurd ((lg_cmp_eq _ _).mpr (by rw [hg, hv, if_neg c6])) c7)
      refine lv_goto (tgt := 2130) hx hb dL_law_468 (by decide) ?_
      refine lv_iinc (v := nI (5 * (k + 1))) (lv' := [(4, .int (nI (5 * (k + 1)))), (6, .int v), (5, .int (nI kk)), (0, .ref b), (1, .ref (ad 0)), (2, .ref (am 0)), (3, .ref o)]) hx hb dL_law_2130 hl (k := 6) rfl (nI_add _ 5) (by decide) rfl (fun ls hl => ?_)
      refine lv_goto (tgt := 23) hx hb dL_law_2133 (by decide) ?_
      refine W.widen (k := 57 + (k + 1)) (n := 6494 + 6 * (k + 1)) (by omega) (by omega) ?_
      exact ih _ μ' g' _ _ _ hI' hP.swp hD.swp hS (lv_sub hl [3, 4, 5, 6, 0] rfl)
set_option maxHeartbeats 4000000 in
set_option maxRecDepth 100000 in
theorem law_case_4 (C : LawC p l s m meth c b L xs D cA cM cO) {k : Nat} (hk : 5 * k + 5 ≤ L) (ih : LoopAt p l e s m below meth c b D ad am cA cM o cO (k + 1)) {σ μ : tyS} {g : Nat → Int64} {H : Heap} {locs : List Loc} {ls : Array Slot} (hI : Inv k σ μ) (hP : va_P D vwCl (wH ad cA o cO σ g ++ wM am cM μ) H) (hD : va_D (fun q : Nat => s.heap.size ≤ q) (wH ad cA o cO σ g ++ wM am cM μ)) (hS : va_S (fun q : Nat => s.heap.size ≤ q) s.heap H locs) (hl : lv_has ls 7 [(0, .ref b), (1, .ref (ad 0)), (2, .ref (am 0)), (3, .ref o), (4, .int (nI (5 * k)))]) : W p l e room_1 s m #[Value.ref b] below meth c H locs (57 + k) (6494 + 6 * k) (lw_Z below #[Value.ref b] s) (F0 m 471 ls []) := by
  obtain ⟨⟨hx, hb, hr, hml, hown0, hts0, hX, hbl, hlocks, hgv⟩, hl9, hOK, hNN, hNC, hCL, hK, hKM, hL⟩ := C
  have hown : s.vm.findClass RL = some m.cls := hown0
  have hts : ∀ w ∈ wsL_law, w.before #[Value.ref b] s = true := fun w h => hts0 w (wsL_law_in w h)
  have hS9 : CallFix p m c code 7 s #[.ref b] wsL_law RL := ⟨hx, hb, hml, hown, hts⟩
  have hA : ∀ q : Nat, s.heap.size ≤ q → (fun q : Nat => s.heap.size ≤ q) q := fun _ h => h
  have hbA : ¬ (fun q : Nat => s.heap.size ≤ q) b := Nat.not_le.mpr hbl
  obtain ⟨res, v, μ', eT, eM, ⟨kk, hkk, hth, hv⟩, hI'⟩ := op_on hI (by omega) (xs (5 * k + 1)) (xs (5 * k + 2))
  refine lv_aload_n hx hb dL_law_471 rfl (lv_at hl 1 rfl) ?_
  refine gz_arg (i := 5 * k) (j := 1) hx hb hX hbl hbA hS (by omega) hL rfl dL_law_472 dL_law_473 dL_law_475 dL_law_476 dL_law_477 (lv_at hl 0 rfl) (lv_at hl 4 rfl) ?_
  refine gz_arg (i := 5 * k) (j := 2) hx hb hX hbl hbA hS (by omega) hL rfl dL_law_478 dL_law_479 dL_law_481 dL_law_482 dL_law_483 (lv_at hl 0 rfl) (lv_at hl 4 rfl) ?_
  refine lv_aload_n hx hb dL_law_484 rfl (lv_at hl 3 rfl) ?_
  refine gz_H (As := [.ref (ad 0), .int (xs (5 * k + 1)), .int (xs (5 * k + 2)), .ref o]) (rest := []) hS9 (tyh_on l hl9 D ad cA o cO H.size σ g (xs (5 * k + 1)) (xs (5 * k + 2)) res kk eT hkk) (vx_cwSW 4 hts gL_law_L_on rfl rfl rfl hd_L_on ⟨by decide, by decide⟩) hK hP hD hS hA hNN hOK hNC hCL rfl hl.1 rfl (Nat.le_of_ble_eq_true rfl) dL_law_485 ⟨by show _ ≤ 1114; omega, by show _ ≤ 14884; omega⟩ (fun g' H locs hg hP hD hS => ?_)
  refine lv_istore (lv' := [(5, .int (nI kk)), (0, .ref b), (1, .ref (ad 0)), (2, .ref (am 0)), (3, .ref o), (4, .int (nI (5 * k)))]) hx hb dL_law_488 hl (by decide) rfl (fun ls hl => ?_)
  refine lv_aload_n hx hb dL_law_490 rfl (lv_at hl 3 rfl) ?_
  refine gz_arg (i := 5 * k) (j := 1) hx hb hX hbl hbA hS (by omega) hL rfl dL_law_491 dL_law_492 dL_law_494 dL_law_495 dL_law_496 (lv_at hl 1 rfl) (lv_at hl 5 rfl) ?_
  refine gz_arg (i := 5 * k) (j := 2) hx hb hX hbl hbA hS (by omega) hL rfl dL_law_497 dL_law_498 dL_law_500 dL_law_501 dL_law_502 (lv_at hl 1 rfl) (lv_at hl 5 rfl) ?_
  refine gz_Mi (w := wM am cM) (As := [.int (xs (5 * k + 1)), .int (xs (5 * k + 2))]) (rest := []) hS9 (tyc_M_on l D am cM _ μ (xs (5 * k + 1)) (xs (5 * k + 2)) v μ' eM) (cwV 2 hts gL_law_X5_on rfl rfl rfl hd_X5_on ⟨by decide, by decide⟩) hKM hP.swp hD.swp hS hA hNN (ci := 5) (q0 := 0) (N := 30) rfl (wM_0 am cM μ) rfl hl.1 rfl (Nat.le_of_ble_eq_true rfl) dL_law_503 ⟨by show _ ≤ 1114; omega, by show _ ≤ 14884; omega⟩ (fun H locs hP hD hS => ?_)
  refine lv_istore (lv' := [(6, .int v), (5, .int (nI kk)), (0, .ref b), (1, .ref (ad 0)), (2, .ref (am 0)), (3, .ref o), (4, .int (nI (5 * k)))]) hx hb dL_law_506 hl (by decide) rfl (fun ls hl => ?_)
  refine lv_aload_n hx hb dL_law_508 rfl (lv_at hl 4 rfl) ?_
  refine gz_Mi (w := wM am cM) (As := []) (rest := []) hS9 (tyc_M_thrown l D am cM _ μ' (μ'.2 0) rfl) (cwV 0 hts gL_law_X5_thrown rfl rfl rfl hd_X5_thrown ⟨by decide, by decide⟩) hKM hP hD hS hA hNN (ci := 5) (q0 := 0) (N := 30) rfl (wM_0 am cM μ') rfl hl.1 rfl (Nat.le_of_ble_eq_true rfl) dL_law_509 ⟨by show _ ≤ 1114; omega, by show _ ≤ 14884; omega⟩ (fun H locs hP hD hS => ?_)
  refine lv_iload hx hb dL_law_512 (lv_at hl 1 rfl) ?_
  refine lv_icmp_eq (tgt := 519) hx hb dL_law_514 (by decide) (fun _ => ?_) (fun c9 => absurd hth c9)
  refine lv_iload hx hb dL_law_519 (lv_at hl 1 rfl) ?_
  refine lv_if_ne (tgt := 536) hx hb dL_law_521 (by decide) (fun _ => ?_) (fun c8 => ?_)
  · refine lv_goto (tgt := 2130) hx hb dL_law_536 (by decide) ?_
    refine lv_iinc (v := nI (5 * (k + 1))) (lv' := [(4, .int (nI (5 * (k + 1)))), (6, .int v), (5, .int (nI kk)), (0, .ref b), (1, .ref (ad 0)), (2, .ref (am 0)), (3, .ref o)]) hx hb dL_law_2130 hl (k := 6) rfl (nI_add _ 5) (by decide) rfl (fun ls hl => ?_)
    refine lv_goto (tgt := 23) hx hb dL_law_2133 (by decide) ?_
    refine W.widen (k := 57 + (k + 1)) (n := 6494 + 6 * (k + 1)) (by omega) (by omega) ?_
    exact ih _ μ' g' _ _ _ hI' hP.swp hD.swp hS (lv_sub hl [3, 4, 5, 6, 0] rfl)
  · have h0 := nI_kk hkk (by decide) c8
    have hg := hg h0
    have hv := hv h0
    have hP2 := hP.swp
    refine lv_aload_n hx hb dL_law_524 rfl (lv_at hl 5 rfl) ?_
    refine lv_iconst (v := 0) hx hb dL_law_525 (by decide) ?_
    refine va_lald (f := g') hx hb hK hP2 32 26 rfl rfl vp_in_01 dL_law_526 ?_
    rw [sb_cl0]
    refine lv_iload hx hb dL_law_527 (lv_at hl 0 rfl) ?_
    refine lv_i2l (v := v.toInt64) hx hb dL_law_529 rfl ?_
    refine W.lcmp hx hb dL_law_530 ?_
    refine lv_if_eq (tgt := 536) hx hb dL_law_531 (by decide) (fun _ => ?_) (fun c7 => absurd ((lg_cmp_eq _ _).mpr (by rw [hg, hv])) c7)
    refine lv_goto (tgt := 2130) hx hb dL_law_536 (by decide) ?_
    refine lv_iinc (v := nI (5 * (k + 1))) (lv' := [(4, .int (nI (5 * (k + 1)))), (6, .int v), (5, .int (nI kk)), (0, .ref b), (1, .ref (ad 0)), (2, .ref (am 0)), (3, .ref o)]) hx hb dL_law_2130 hl (k := 6) rfl (nI_add _ 5) (by decide) rfl (fun ls hl => ?_)
    refine lv_goto (tgt := 23) hx hb dL_law_2133 (by decide) ?_
    refine W.widen (k := 57 + (k + 1)) (n := 6494 + 6 * (k + 1)) (by omega) (by omega) ?_
    exact ih _ μ' g' _ _ _ hI' hP.swp hD.swp hS (lv_sub hl [3, 4, 5, 6, 0] rfl)
set_option maxHeartbeats 4000000 in
set_option maxRecDepth 100000 in
theorem law_case_5 (C : LawC p l s m meth c b L xs D cA cM cO) {k : Nat} (hk : 5 * k + 5 ≤ L) (ih : LoopAt p l e s m below meth c b D ad am cA cM o cO (k + 1)) {σ μ : tyS} {g : Nat → Int64} {H : Heap} {locs : List Loc} {ls : Array Slot} (hI : Inv k σ μ) (hP : va_P D vwCl (wH ad cA o cO σ g ++ wM am cM μ) H) (hD : va_D (fun q : Nat => s.heap.size ≤ q) (wH ad cA o cO σ g ++ wM am cM μ)) (hS : va_S (fun q : Nat => s.heap.size ≤ q) s.heap H locs) (hl : lv_has ls 7 [(0, .ref b), (1, .ref (ad 0)), (2, .ref (am 0)), (3, .ref o), (4, .int (nI (5 * k)))]) : W p l e room_1 s m #[Value.ref b] below meth c H locs (57 + k) (6494 + 6 * k) (lw_Z below #[Value.ref b] s) (F0 m 539 ls []) := by
  obtain ⟨⟨hx, hb, hr, hml, hown0, hts0, hX, hbl, hlocks, hgv⟩, hl9, hOK, hNN, hNC, hCL, hK, hKM, hL⟩ := C
  have hown : s.vm.findClass RL = some m.cls := hown0
  have hts : ∀ w ∈ wsL_law, w.before #[Value.ref b] s = true := fun w h => hts0 w (wsL_law_in w h)
  have hS9 : CallFix p m c code 7 s #[.ref b] wsL_law RL := ⟨hx, hb, hml, hown, hts⟩
  have hA : ∀ q : Nat, s.heap.size ≤ q → (fun q : Nat => s.heap.size ≤ q) q := fun _ h => h
  have hbA : ¬ (fun q : Nat => s.heap.size ≤ q) b := Nat.not_le.mpr hbl
  obtain ⟨res, v, μ', eT, eM, ⟨kk, hkk, hth, hv⟩, hI'⟩ := op_at hI (by omega) (xs (5 * k + 1)) (xs (5 * k + 2)) (xs (5 * k + 3))
  refine lv_aload_n hx hb dL_law_539 rfl (lv_at hl 1 rfl) ?_
  refine gz_arg (i := 5 * k) (j := 1) hx hb hX hbl hbA hS (by omega) hL rfl dL_law_540 dL_law_541 dL_law_543 dL_law_544 dL_law_545 (lv_at hl 0 rfl) (lv_at hl 4 rfl) ?_
  refine gz_arg (i := 5 * k) (j := 2) hx hb hX hbl hbA hS (by omega) hL rfl dL_law_546 dL_law_547 dL_law_549 dL_law_550 dL_law_551 (lv_at hl 0 rfl) (lv_at hl 4 rfl) ?_
  refine gz_arg (i := 5 * k) (j := 3) hx hb hX hbl hbA hS (by omega) hL rfl dL_law_552 dL_law_553 dL_law_555 dL_law_556 dL_law_557 (lv_at hl 0 rfl) (lv_at hl 4 rfl) ?_
  refine lv_aload_n hx hb dL_law_558 rfl (lv_at hl 3 rfl) ?_
  refine gz_H (As := [.ref (ad 0), .int (xs (5 * k + 1)), .int (xs (5 * k + 2)), .int (xs (5 * k + 3)), .ref o]) (rest := []) hS9 (tyh_at l hl9 D ad cA o cO H.size σ g (xs (5 * k + 1)) (xs (5 * k + 2)) (xs (5 * k + 3)) res kk eT hkk) (vx_cwSW 5 hts gL_law_L_at rfl rfl rfl hd_L_at ⟨by decide, by decide⟩) hK hP hD hS hA hNN hOK hNC hCL rfl hl.1 rfl (Nat.le_of_ble_eq_true rfl) dL_law_559 ⟨by show _ ≤ 1114; omega, by show _ ≤ 14884; omega⟩ (fun g' H locs hg hP hD hS => ?_)
  refine lv_istore (lv' := [(5, .int (nI kk)), (0, .ref b), (1, .ref (ad 0)), (2, .ref (am 0)), (3, .ref o), (4, .int (nI (5 * k)))]) hx hb dL_law_562 hl (by decide) rfl (fun ls hl => ?_)
  refine lv_aload_n hx hb dL_law_564 rfl (lv_at hl 3 rfl) ?_
  refine gz_arg (i := 5 * k) (j := 1) hx hb hX hbl hbA hS (by omega) hL rfl dL_law_565 dL_law_566 dL_law_568 dL_law_569 dL_law_570 (lv_at hl 1 rfl) (lv_at hl 5 rfl) ?_
  refine gz_arg (i := 5 * k) (j := 2) hx hb hX hbl hbA hS (by omega) hL rfl dL_law_571 dL_law_572 dL_law_574 dL_law_575 dL_law_576 (lv_at hl 1 rfl) (lv_at hl 5 rfl) ?_
  refine gz_arg (i := 5 * k) (j := 3) hx hb hX hbl hbA hS (by omega) hL rfl dL_law_577 dL_law_578 dL_law_580 dL_law_581 dL_law_582 (lv_at hl 1 rfl) (lv_at hl 5 rfl) ?_
  refine gz_Mi (w := wM am cM) (As := [.int (xs (5 * k + 1)), .int (xs (5 * k + 2)), .int (xs (5 * k + 3))]) (rest := []) hS9 (tyc_M_at l D am cM _ μ (xs (5 * k + 1)) (xs (5 * k + 2)) (xs (5 * k + 3)) v μ' eM) (cwV 3 hts gL_law_X5_at rfl rfl rfl hd_X5_at ⟨by decide, by decide⟩) hKM hP.swp hD.swp hS hA hNN (ci := 5) (q0 := 0) (N := 30) rfl (wM_0 am cM μ) rfl hl.1 rfl (Nat.le_of_ble_eq_true rfl) dL_law_583 ⟨by show _ ≤ 1114; omega, by show _ ≤ 14884; omega⟩ (fun H locs hP hD hS => ?_)
  refine lv_istore (lv' := [(6, .int v), (5, .int (nI kk)), (0, .ref b), (1, .ref (ad 0)), (2, .ref (am 0)), (3, .ref o), (4, .int (nI (5 * k)))]) hx hb dL_law_586 hl (by decide) rfl (fun ls hl => ?_)
  refine lv_aload_n hx hb dL_law_588 rfl (lv_at hl 4 rfl) ?_
  refine gz_Mi (w := wM am cM) (As := []) (rest := []) hS9 (tyc_M_thrown l D am cM _ μ' (μ'.2 0) rfl) (cwV 0 hts gL_law_X5_thrown rfl rfl rfl hd_X5_thrown ⟨by decide, by decide⟩) hKM hP hD hS hA hNN (ci := 5) (q0 := 0) (N := 30) rfl (wM_0 am cM μ') rfl hl.1 rfl (Nat.le_of_ble_eq_true rfl) dL_law_589 ⟨by show _ ≤ 1114; omega, by show _ ≤ 14884; omega⟩ (fun H locs hP hD hS => ?_)
  refine lv_iload hx hb dL_law_592 (lv_at hl 1 rfl) ?_
  refine lv_icmp_eq (tgt := 599) hx hb dL_law_594 (by decide) (fun _ => ?_) (fun c9 => absurd hth c9)
  refine lv_iload hx hb dL_law_599 (lv_at hl 1 rfl) ?_
  refine lv_if_ne (tgt := 616) hx hb dL_law_601 (by decide) (fun _ => ?_) (fun c8 => ?_)
  · refine lv_goto (tgt := 2130) hx hb dL_law_616 (by decide) ?_
    refine lv_iinc (v := nI (5 * (k + 1))) (lv' := [(4, .int (nI (5 * (k + 1)))), (6, .int v), (5, .int (nI kk)), (0, .ref b), (1, .ref (ad 0)), (2, .ref (am 0)), (3, .ref o)]) hx hb dL_law_2130 hl (k := 6) rfl (nI_add _ 5) (by decide) rfl (fun ls hl => ?_)
    refine lv_goto (tgt := 23) hx hb dL_law_2133 (by decide) ?_
    refine W.widen (k := 57 + (k + 1)) (n := 6494 + 6 * (k + 1)) (by omega) (by omega) ?_
    exact ih _ μ' g' _ _ _ hI' hP.swp hD.swp hS (lv_sub hl [3, 4, 5, 6, 0] rfl)
  · have h0 := nI_kk hkk (by decide) c8
    have hg := hg h0
    have hv := hv h0
    have hP2 := hP.swp
    refine lv_aload_n hx hb dL_law_604 rfl (lv_at hl 5 rfl) ?_
    refine lv_iconst (v := 0) hx hb dL_law_605 (by decide) ?_
    refine va_lald (f := g') hx hb hK hP2 32 26 rfl rfl vp_in_01 dL_law_606 ?_
    rw [sb_cl0]
    refine lv_iload hx hb dL_law_607 (lv_at hl 0 rfl) ?_
    refine lv_i2l (v := v.toInt64) hx hb dL_law_609 rfl ?_
    refine W.lcmp hx hb dL_law_610 ?_
    refine lv_if_eq (tgt := 616) hx hb dL_law_611 (by decide) (fun _ => ?_) (fun c7 => absurd ((lg_cmp_eq _ _).mpr (by rw [hg, hv])) c7)
    refine lv_goto (tgt := 2130) hx hb dL_law_616 (by decide) ?_
    refine lv_iinc (v := nI (5 * (k + 1))) (lv' := [(4, .int (nI (5 * (k + 1)))), (6, .int v), (5, .int (nI kk)), (0, .ref b), (1, .ref (ad 0)), (2, .ref (am 0)), (3, .ref o)]) hx hb dL_law_2130 hl (k := 6) rfl (nI_add _ 5) (by decide) rfl (fun ls hl => ?_)
    refine lv_goto (tgt := 23) hx hb dL_law_2133 (by decide) ?_
    refine W.widen (k := 57 + (k + 1)) (n := 6494 + 6 * (k + 1)) (by omega) (by omega) ?_
    exact ih _ μ' g' _ _ _ hI' hP.swp hD.swp hS (lv_sub hl [3, 4, 5, 6, 0] rfl)
set_option maxHeartbeats 4000000 in
set_option maxRecDepth 100000 in
theorem law_case_6 (C : LawC p l s m meth c b L xs D cA cM cO) {k : Nat} (hk : 5 * k + 5 ≤ L) (ih : LoopAt p l e s m below meth c b D ad am cA cM o cO (k + 1)) {σ μ : tyS} {g : Nat → Int64} {H : Heap} {locs : List Loc} {ls : Array Slot} (hI : Inv k σ μ) (hP : va_P D vwCl (wH ad cA o cO σ g ++ wM am cM μ) H) (hD : va_D (fun q : Nat => s.heap.size ≤ q) (wH ad cA o cO σ g ++ wM am cM μ)) (hS : va_S (fun q : Nat => s.heap.size ≤ q) s.heap H locs) (hl : lv_has ls 7 [(0, .ref b), (1, .ref (ad 0)), (2, .ref (am 0)), (3, .ref o), (4, .int (nI (5 * k)))]) : W p l e room_1 s m #[Value.ref b] below meth c H locs (57 + k) (6494 + 6 * k) (lw_Z below #[Value.ref b] s) (F0 m 619 ls []) := by
  obtain ⟨⟨hx, hb, hr, hml, hown0, hts0, hX, hbl, hlocks, hgv⟩, hl9, hOK, hNN, hNC, hCL, hK, hKM, hL⟩ := C
  have hown : s.vm.findClass RL = some m.cls := hown0
  have hts : ∀ w ∈ wsL_law, w.before #[Value.ref b] s = true := fun w h => hts0 w (wsL_law_in w h)
  have hS9 : CallFix p m c code 7 s #[.ref b] wsL_law RL := ⟨hx, hb, hml, hown, hts⟩
  have hA : ∀ q : Nat, s.heap.size ≤ q → (fun q : Nat => s.heap.size ≤ q) q := fun _ h => h
  have hbA : ¬ (fun q : Nat => s.heap.size ≤ q) b := Nat.not_le.mpr hbl
  obtain ⟨res, v, μ', eT, eM, ⟨kk, hkk, hth, hv⟩, hI'⟩ := op_atByReplay hI (by omega) (xs (5 * k + 1)) (xs (5 * k + 2)) (xs (5 * k + 3))
  refine lv_aload_n hx hb dL_law_619 rfl (lv_at hl 1 rfl) ?_
  refine gz_arg (i := 5 * k) (j := 1) hx hb hX hbl hbA hS (by omega) hL rfl dL_law_620 dL_law_621 dL_law_623 dL_law_624 dL_law_625 (lv_at hl 0 rfl) (lv_at hl 4 rfl) ?_
  refine gz_arg (i := 5 * k) (j := 2) hx hb hX hbl hbA hS (by omega) hL rfl dL_law_626 dL_law_627 dL_law_629 dL_law_630 dL_law_631 (lv_at hl 0 rfl) (lv_at hl 4 rfl) ?_
  refine gz_arg (i := 5 * k) (j := 3) hx hb hX hbl hbA hS (by omega) hL rfl dL_law_632 dL_law_633 dL_law_635 dL_law_636 dL_law_637 (lv_at hl 0 rfl) (lv_at hl 4 rfl) ?_
  refine lv_aload_n hx hb dL_law_638 rfl (lv_at hl 3 rfl) ?_
  refine gz_H (As := [.ref (ad 0), .int (xs (5 * k + 1)), .int (xs (5 * k + 2)), .int (xs (5 * k + 3)), .ref o]) (rest := []) hS9 (tyh_atByReplay l hl9 D ad cA o cO H.size σ g (xs (5 * k + 1)) (xs (5 * k + 2)) (xs (5 * k + 3)) res kk eT hkk) (vx_cwSW 5 hts gL_law_L_atByReplay rfl rfl rfl hd_L_atByReplay ⟨by decide, by decide⟩) hK hP hD hS hA hNN hOK hNC hCL rfl hl.1 rfl (Nat.le_of_ble_eq_true rfl) dL_law_639 ⟨by show _ ≤ 1114; omega, by show _ ≤ 14884; omega⟩ (fun g' H locs hg hP hD hS => ?_)
  refine lv_istore (lv' := [(5, .int (nI kk)), (0, .ref b), (1, .ref (ad 0)), (2, .ref (am 0)), (3, .ref o), (4, .int (nI (5 * k)))]) hx hb dL_law_642 hl (by decide) rfl (fun ls hl => ?_)
  refine lv_aload_n hx hb dL_law_644 rfl (lv_at hl 3 rfl) ?_
  refine gz_arg (i := 5 * k) (j := 1) hx hb hX hbl hbA hS (by omega) hL rfl dL_law_645 dL_law_646 dL_law_648 dL_law_649 dL_law_650 (lv_at hl 1 rfl) (lv_at hl 5 rfl) ?_
  refine gz_arg (i := 5 * k) (j := 2) hx hb hX hbl hbA hS (by omega) hL rfl dL_law_651 dL_law_652 dL_law_654 dL_law_655 dL_law_656 (lv_at hl 1 rfl) (lv_at hl 5 rfl) ?_
  refine gz_arg (i := 5 * k) (j := 3) hx hb hX hbl hbA hS (by omega) hL rfl dL_law_657 dL_law_658 dL_law_660 dL_law_661 dL_law_662 (lv_at hl 1 rfl) (lv_at hl 5 rfl) ?_
  refine gz_Mi (w := wM am cM) (As := [.int (xs (5 * k + 1)), .int (xs (5 * k + 2)), .int (xs (5 * k + 3))]) (rest := []) hS9 (tyc_M_atByReplay l D am cM _ μ (xs (5 * k + 1)) (xs (5 * k + 2)) (xs (5 * k + 3)) v μ' eM) (cwV 3 hts gL_law_X5_atByReplay rfl rfl rfl hd_X5_atByReplay ⟨by decide, by decide⟩) hKM hP.swp hD.swp hS hA hNN (ci := 5) (q0 := 0) (N := 30) rfl (wM_0 am cM μ) rfl hl.1 rfl (Nat.le_of_ble_eq_true rfl) dL_law_663 ⟨by show _ ≤ 1114; omega, by show _ ≤ 14884; omega⟩ (fun H locs hP hD hS => ?_)
  refine lv_istore (lv' := [(6, .int v), (5, .int (nI kk)), (0, .ref b), (1, .ref (ad 0)), (2, .ref (am 0)), (3, .ref o), (4, .int (nI (5 * k)))]) hx hb dL_law_666 hl (by decide) rfl (fun ls hl => ?_)
  refine lv_aload_n hx hb dL_law_668 rfl (lv_at hl 4 rfl) ?_
  refine gz_Mi (w := wM am cM) (As := []) (rest := []) hS9 (tyc_M_thrown l D am cM _ μ' (μ'.2 0) rfl) (cwV 0 hts gL_law_X5_thrown rfl rfl rfl hd_X5_thrown ⟨by decide, by decide⟩) hKM hP hD hS hA hNN (ci := 5) (q0 := 0) (N := 30) rfl (wM_0 am cM μ') rfl hl.1 rfl (Nat.le_of_ble_eq_true rfl) dL_law_669 ⟨by show _ ≤ 1114; omega, by show _ ≤ 14884; omega⟩ (fun H locs hP hD hS => ?_)
  refine lv_iload hx hb dL_law_672 (lv_at hl 1 rfl) ?_
  refine lv_icmp_eq (tgt := 679) hx hb dL_law_674 (by decide) (fun _ => ?_) (fun c9 => absurd hth c9)
  refine lv_iload hx hb dL_law_679 (lv_at hl 1 rfl) ?_
  refine lv_if_ne (tgt := 696) hx hb dL_law_681 (by decide) (fun _ => ?_) (fun c8 => ?_)
  · refine lv_goto (tgt := 2130) hx hb dL_law_696 (by decide) ?_
    refine lv_iinc (v := nI (5 * (k + 1))) (lv' := [(4, .int (nI (5 * (k + 1)))), (6, .int v), (5, .int (nI kk)), (0, .ref b), (1, .ref (ad 0)), (2, .ref (am 0)), (3, .ref o)]) hx hb dL_law_2130 hl (k := 6) rfl (nI_add _ 5) (by decide) rfl (fun ls hl => ?_)
    refine lv_goto (tgt := 23) hx hb dL_law_2133 (by decide) ?_
    refine W.widen (k := 57 + (k + 1)) (n := 6494 + 6 * (k + 1)) (by omega) (by omega) ?_
    exact ih _ μ' g' _ _ _ hI' hP.swp hD.swp hS (lv_sub hl [3, 4, 5, 6, 0] rfl)
  · have h0 := nI_kk hkk (by decide) c8
    have hg := hg h0
    have hv := hv h0
    have hP2 := hP.swp
    refine lv_aload_n hx hb dL_law_684 rfl (lv_at hl 5 rfl) ?_
    refine lv_iconst (v := 0) hx hb dL_law_685 (by decide) ?_
    refine va_lald (f := g') hx hb hK hP2 32 26 rfl rfl vp_in_01 dL_law_686 ?_
    rw [sb_cl0]
    refine lv_iload hx hb dL_law_687 (lv_at hl 0 rfl) ?_
    refine lv_i2l (v := v.toInt64) hx hb dL_law_689 rfl ?_
    refine W.lcmp hx hb dL_law_690 ?_
    refine lv_if_eq (tgt := 696) hx hb dL_law_691 (by decide) (fun _ => ?_) (fun c7 => absurd ((lg_cmp_eq _ _).mpr (by rw [hg, hv])) c7)
    refine lv_goto (tgt := 2130) hx hb dL_law_696 (by decide) ?_
    refine lv_iinc (v := nI (5 * (k + 1))) (lv' := [(4, .int (nI (5 * (k + 1)))), (6, .int v), (5, .int (nI kk)), (0, .ref b), (1, .ref (ad 0)), (2, .ref (am 0)), (3, .ref o)]) hx hb dL_law_2130 hl (k := 6) rfl (nI_add _ 5) (by decide) rfl (fun ls hl => ?_)
    refine lv_goto (tgt := 23) hx hb dL_law_2133 (by decide) ?_
    refine W.widen (k := 57 + (k + 1)) (n := 6494 + 6 * (k + 1)) (by omega) (by omega) ?_
    exact ih _ μ' g' _ _ _ hI' hP.swp hD.swp hS (lv_sub hl [3, 4, 5, 6, 0] rfl)
set_option maxHeartbeats 4000000 in
set_option maxRecDepth 100000 in
theorem law_case_7 (C : LawC p l s m meth c b L xs D cA cM cO) {k : Nat} (hk : 5 * k + 5 ≤ L) (ih : LoopAt p l e s m below meth c b D ad am cA cM o cO (k + 1)) {σ μ : tyS} {g : Nat → Int64} {H : Heap} {locs : List Loc} {ls : Array Slot} (hI : Inv k σ μ) (hP : va_P D vwCl (wH ad cA o cO σ g ++ wM am cM μ) H) (hD : va_D (fun q : Nat => s.heap.size ≤ q) (wH ad cA o cO σ g ++ wM am cM μ)) (hS : va_S (fun q : Nat => s.heap.size ≤ q) s.heap H locs) (hl : lv_has ls 7 [(0, .ref b), (1, .ref (ad 0)), (2, .ref (am 0)), (3, .ref o), (4, .int (nI (5 * k)))]) : W p l e room_1 s m #[Value.ref b] below meth c H locs (57 + k) (6494 + 6 * k) (lw_Z below #[Value.ref b] s) (F0 m 699 ls []) := by
  obtain ⟨⟨hx, hb, hr, hml, hown0, hts0, hX, hbl, hlocks, hgv⟩, hl9, hOK, hNN, hNC, hCL, hK, hKM, hL⟩ := C
  have hown : s.vm.findClass RL = some m.cls := hown0
  have hts : ∀ w ∈ wsL_law, w.before #[Value.ref b] s = true := fun w h => hts0 w (wsL_law_in w h)
  have hS9 : CallFix p m c code 7 s #[.ref b] wsL_law RL := ⟨hx, hb, hml, hown, hts⟩
  have hA : ∀ q : Nat, s.heap.size ≤ q → (fun q : Nat => s.heap.size ≤ q) q := fun _ h => h
  have hbA : ¬ (fun q : Nat => s.heap.size ≤ q) b := Nat.not_le.mpr hbl
  obtain ⟨res, v, μ', eT, eM, ⟨kk, hkk, hth, hv⟩, hI'⟩ := op_where hI (by omega) (xs (5 * k + 1))
  refine lv_aload_n hx hb dL_law_699 rfl (lv_at hl 1 rfl) ?_
  refine gz_arg (i := 5 * k) (j := 1) hx hb hX hbl hbA hS (by omega) hL rfl dL_law_700 dL_law_701 dL_law_703 dL_law_704 dL_law_705 (lv_at hl 0 rfl) (lv_at hl 4 rfl) ?_
  refine lv_aload_n hx hb dL_law_706 rfl (lv_at hl 3 rfl) ?_
  refine gz_H (As := [.ref (ad 0), .int (xs (5 * k + 1)), .ref o]) (rest := []) hS9 (tyh_where l hl9 D ad cA o cO H.size σ g (xs (5 * k + 1)) res kk eT hkk) (vx_cwSW 3 hts gL_law_L_where rfl rfl rfl hd_L_where ⟨by decide, by decide⟩) hK hP hD hS hA hNN hOK hNC hCL rfl hl.1 rfl (Nat.le_of_ble_eq_true rfl) dL_law_707 ⟨by show _ ≤ 1114; omega, by show _ ≤ 14884; omega⟩ (fun g' H locs hg hP hD hS => ?_)
  refine lv_istore (lv' := [(5, .int (nI kk)), (0, .ref b), (1, .ref (ad 0)), (2, .ref (am 0)), (3, .ref o), (4, .int (nI (5 * k)))]) hx hb dL_law_710 hl (by decide) rfl (fun ls hl => ?_)
  refine lv_aload_n hx hb dL_law_712 rfl (lv_at hl 3 rfl) ?_
  refine gz_arg (i := 5 * k) (j := 1) hx hb hX hbl hbA hS (by omega) hL rfl dL_law_713 dL_law_714 dL_law_716 dL_law_717 dL_law_718 (lv_at hl 1 rfl) (lv_at hl 5 rfl) ?_
  refine gz_Mi (w := wM am cM) (As := [.int (xs (5 * k + 1))]) (rest := []) hS9 (tyc_M_where l D am cM _ μ (xs (5 * k + 1)) v μ' eM) (cwV 1 hts gL_law_X5_where rfl rfl rfl hd_X5_where ⟨by decide, by decide⟩) hKM hP.swp hD.swp hS hA hNN (ci := 5) (q0 := 0) (N := 30) rfl (wM_0 am cM μ) rfl hl.1 rfl (Nat.le_of_ble_eq_true rfl) dL_law_719 ⟨by show _ ≤ 1114; omega, by show _ ≤ 14884; omega⟩ (fun H locs hP hD hS => ?_)
  refine lv_istore (lv' := [(6, .int v), (5, .int (nI kk)), (0, .ref b), (1, .ref (ad 0)), (2, .ref (am 0)), (3, .ref o), (4, .int (nI (5 * k)))]) hx hb dL_law_722 hl (by decide) rfl (fun ls hl => ?_)
  refine lv_aload_n hx hb dL_law_724 rfl (lv_at hl 4 rfl) ?_
  refine gz_Mi (w := wM am cM) (As := []) (rest := []) hS9 (tyc_M_thrown l D am cM _ μ' (μ'.2 0) rfl) (cwV 0 hts gL_law_X5_thrown rfl rfl rfl hd_X5_thrown ⟨by decide, by decide⟩) hKM hP hD hS hA hNN (ci := 5) (q0 := 0) (N := 30) rfl (wM_0 am cM μ') rfl hl.1 rfl (Nat.le_of_ble_eq_true rfl) dL_law_725 ⟨by show _ ≤ 1114; omega, by show _ ≤ 14884; omega⟩ (fun H locs hP hD hS => ?_)
  refine lv_iload hx hb dL_law_728 (lv_at hl 1 rfl) ?_
  refine lv_icmp_eq (tgt := 735) hx hb dL_law_730 (by decide) (fun _ => ?_) (fun c9 => absurd hth c9)
  refine lv_iload hx hb dL_law_735 (lv_at hl 1 rfl) ?_
  refine lv_if_ne (tgt := 752) hx hb dL_law_737 (by decide) (fun _ => ?_) (fun c8 => ?_)
  · refine lv_goto (tgt := 2130) hx hb dL_law_752 (by decide) ?_
    refine lv_iinc (v := nI (5 * (k + 1))) (lv' := [(4, .int (nI (5 * (k + 1)))), (6, .int v), (5, .int (nI kk)), (0, .ref b), (1, .ref (ad 0)), (2, .ref (am 0)), (3, .ref o)]) hx hb dL_law_2130 hl (k := 6) rfl (nI_add _ 5) (by decide) rfl (fun ls hl => ?_)
    refine lv_goto (tgt := 23) hx hb dL_law_2133 (by decide) ?_
    refine W.widen (k := 57 + (k + 1)) (n := 6494 + 6 * (k + 1)) (by omega) (by omega) ?_
    exact ih _ μ' g' _ _ _ hI' hP.swp hD.swp hS (lv_sub hl [3, 4, 5, 6, 0] rfl)
  · have h0 := nI_kk hkk (by decide) c8
    have hg := hg h0
    have hv := hv h0
    have hP2 := hP.swp
    refine lv_aload_n hx hb dL_law_740 rfl (lv_at hl 5 rfl) ?_
    refine lv_iconst (v := 0) hx hb dL_law_741 (by decide) ?_
    refine va_lald (f := g') hx hb hK hP2 32 26 rfl rfl vp_in_01 dL_law_742 ?_
    rw [sb_cl0]
    refine lv_iload hx hb dL_law_743 (lv_at hl 0 rfl) ?_
    refine lv_i2l (v := v.toInt64) hx hb dL_law_745 rfl ?_
    refine W.lcmp hx hb dL_law_746 ?_
    refine lv_if_eq (tgt := 752) hx hb dL_law_747 (by decide) (fun _ => ?_) (fun c7 => absurd ((lg_cmp_eq _ _).mpr (by rw [hg, hv])) c7)
    refine lv_goto (tgt := 2130) hx hb dL_law_752 (by decide) ?_
    refine lv_iinc (v := nI (5 * (k + 1))) (lv' := [(4, .int (nI (5 * (k + 1)))), (6, .int v), (5, .int (nI kk)), (0, .ref b), (1, .ref (ad 0)), (2, .ref (am 0)), (3, .ref o)]) hx hb dL_law_2130 hl (k := 6) rfl (nI_add _ 5) (by decide) rfl (fun ls hl => ?_)
    refine lv_goto (tgt := 23) hx hb dL_law_2133 (by decide) ?_
    refine W.widen (k := 57 + (k + 1)) (n := 6494 + 6 * (k + 1)) (by omega) (by omega) ?_
    exact ih _ μ' g' _ _ _ hI' hP.swp hD.swp hS (lv_sub hl [3, 4, 5, 6, 0] rfl)
set_option maxHeartbeats 4000000 in
set_option maxRecDepth 100000 in
theorem law_case_8 (C : LawC p l s m meth c b L xs D cA cM cO) {k : Nat} (hk : 5 * k + 5 ≤ L) (ih : LoopAt p l e s m below meth c b D ad am cA cM o cO (k + 1)) {σ μ : tyS} {g : Nat → Int64} {H : Heap} {locs : List Loc} {ls : Array Slot} (hI : Inv k σ μ) (hP : va_P D vwCl (wH ad cA o cO σ g ++ wM am cM μ) H) (hD : va_D (fun q : Nat => s.heap.size ≤ q) (wH ad cA o cO σ g ++ wM am cM μ)) (hS : va_S (fun q : Nat => s.heap.size ≤ q) s.heap H locs) (hl : lv_has ls 7 [(0, .ref b), (1, .ref (ad 0)), (2, .ref (am 0)), (3, .ref o), (4, .int (nI (5 * k)))]) : W p l e room_1 s m #[Value.ref b] below meth c H locs (57 + k) (6494 + 6 * k) (lw_Z below #[Value.ref b] s) (F0 m 755 ls []) := by
  obtain ⟨⟨hx, hb, hr, hml, hown0, hts0, hX, hbl, hlocks, hgv⟩, hl9, hOK, hNN, hNC, hCL, hK, hKM, hL⟩ := C
  have hown : s.vm.findClass RL = some m.cls := hown0
  have hts : ∀ w ∈ wsL_law, w.before #[Value.ref b] s = true := fun w h => hts0 w (wsL_law_in w h)
  have hS9 : CallFix p m c code 7 s #[.ref b] wsL_law RL := ⟨hx, hb, hml, hown, hts⟩
  have hA : ∀ q : Nat, s.heap.size ≤ q → (fun q : Nat => s.heap.size ≤ q) q := fun _ h => h
  have hbA : ¬ (fun q : Nat => s.heap.size ≤ q) b := Nat.not_le.mpr hbl
  obtain ⟨res, v, μ', eT, eM, ⟨kk, hkk, hth, hv⟩, hI'⟩ := op_carried hI (by omega) (xs (5 * k + 1))
  refine lv_aload_n hx hb dL_law_755 rfl (lv_at hl 1 rfl) ?_
  refine gz_arg (i := 5 * k) (j := 1) hx hb hX hbl hbA hS (by omega) hL rfl dL_law_756 dL_law_757 dL_law_759 dL_law_760 dL_law_761 (lv_at hl 0 rfl) (lv_at hl 4 rfl) ?_
  refine lv_aload_n hx hb dL_law_762 rfl (lv_at hl 3 rfl) ?_
  refine gz_H (As := [.ref (ad 0), .int (xs (5 * k + 1)), .ref o]) (rest := []) hS9 (tyh_carried l hl9 D ad cA o cO H.size σ g (xs (5 * k + 1)) res kk eT hkk) (vx_cwSW 3 hts gL_law_L_carried rfl rfl rfl hd_L_carried ⟨by decide, by decide⟩) hK hP hD hS hA hNN hOK hNC hCL rfl hl.1 rfl (Nat.le_of_ble_eq_true rfl) dL_law_763 ⟨by show _ ≤ 1114; omega, by show _ ≤ 14884; omega⟩ (fun g' H locs hg hP hD hS => ?_)
  refine lv_istore (lv' := [(5, .int (nI kk)), (0, .ref b), (1, .ref (ad 0)), (2, .ref (am 0)), (3, .ref o), (4, .int (nI (5 * k)))]) hx hb dL_law_766 hl (by decide) rfl (fun ls hl => ?_)
  refine lv_aload_n hx hb dL_law_768 rfl (lv_at hl 3 rfl) ?_
  refine gz_arg (i := 5 * k) (j := 1) hx hb hX hbl hbA hS (by omega) hL rfl dL_law_769 dL_law_770 dL_law_772 dL_law_773 dL_law_774 (lv_at hl 1 rfl) (lv_at hl 5 rfl) ?_
  refine gz_Mi (w := wM am cM) (As := [.int (xs (5 * k + 1))]) (rest := []) hS9 (tyc_M_carried l D am cM _ μ (xs (5 * k + 1)) v μ' eM) (cwV 1 hts gL_law_X5_carried rfl rfl rfl hd_X5_carried ⟨by decide, by decide⟩) hKM hP.swp hD.swp hS hA hNN (ci := 5) (q0 := 0) (N := 30) rfl (wM_0 am cM μ) rfl hl.1 rfl (Nat.le_of_ble_eq_true rfl) dL_law_775 ⟨by show _ ≤ 1114; omega, by show _ ≤ 14884; omega⟩ (fun H locs hP hD hS => ?_)
  refine lv_istore (lv' := [(6, .int v), (5, .int (nI kk)), (0, .ref b), (1, .ref (ad 0)), (2, .ref (am 0)), (3, .ref o), (4, .int (nI (5 * k)))]) hx hb dL_law_778 hl (by decide) rfl (fun ls hl => ?_)
  refine lv_aload_n hx hb dL_law_780 rfl (lv_at hl 4 rfl) ?_
  refine gz_Mi (w := wM am cM) (As := []) (rest := []) hS9 (tyc_M_thrown l D am cM _ μ' (μ'.2 0) rfl) (cwV 0 hts gL_law_X5_thrown rfl rfl rfl hd_X5_thrown ⟨by decide, by decide⟩) hKM hP hD hS hA hNN (ci := 5) (q0 := 0) (N := 30) rfl (wM_0 am cM μ') rfl hl.1 rfl (Nat.le_of_ble_eq_true rfl) dL_law_781 ⟨by show _ ≤ 1114; omega, by show _ ≤ 14884; omega⟩ (fun H locs hP hD hS => ?_)
  refine lv_iload hx hb dL_law_784 (lv_at hl 1 rfl) ?_
  refine lv_icmp_eq (tgt := 791) hx hb dL_law_786 (by decide) (fun _ => ?_) (fun c9 => absurd hth c9)
  refine lv_iload hx hb dL_law_791 (lv_at hl 1 rfl) ?_
  refine lv_if_ne (tgt := 808) hx hb dL_law_793 (by decide) (fun _ => ?_) (fun c8 => ?_)
  · refine lv_goto (tgt := 2130) hx hb dL_law_808 (by decide) ?_
    refine lv_iinc (v := nI (5 * (k + 1))) (lv' := [(4, .int (nI (5 * (k + 1)))), (6, .int v), (5, .int (nI kk)), (0, .ref b), (1, .ref (ad 0)), (2, .ref (am 0)), (3, .ref o)]) hx hb dL_law_2130 hl (k := 6) rfl (nI_add _ 5) (by decide) rfl (fun ls hl => ?_)
    refine lv_goto (tgt := 23) hx hb dL_law_2133 (by decide) ?_
    refine W.widen (k := 57 + (k + 1)) (n := 6494 + 6 * (k + 1)) (by omega) (by omega) ?_
    exact ih _ μ' g' _ _ _ hI' hP.swp hD.swp hS (lv_sub hl [3, 4, 5, 6, 0] rfl)
  · have h0 := nI_kk hkk (by decide) c8
    have hg := hg h0
    have hv := hv h0
    have hP2 := hP.swp
    refine lv_aload_n hx hb dL_law_796 rfl (lv_at hl 5 rfl) ?_
    refine lv_iconst (v := 0) hx hb dL_law_797 (by decide) ?_
    refine va_lald (f := g') hx hb hK hP2 32 26 rfl rfl vp_in_01 dL_law_798 ?_
    rw [sb_cl0]
    refine lv_iload hx hb dL_law_799 (lv_at hl 0 rfl) ?_
    refine lv_i2l (v := v.toInt64) hx hb dL_law_801 rfl ?_
    refine W.lcmp hx hb dL_law_802 ?_
    refine lv_if_eq (tgt := 808) hx hb dL_law_803 (by decide) (fun _ => ?_) (fun c7 => absurd ((lg_cmp_eq _ _).mpr (by rw [hg, hv])) c7)
    refine lv_goto (tgt := 2130) hx hb dL_law_808 (by decide) ?_
    refine lv_iinc (v := nI (5 * (k + 1))) (lv' := [(4, .int (nI (5 * (k + 1)))), (6, .int v), (5, .int (nI kk)), (0, .ref b), (1, .ref (ad 0)), (2, .ref (am 0)), (3, .ref o)]) hx hb dL_law_2130 hl (k := 6) rfl (nI_add _ 5) (by decide) rfl (fun ls hl => ?_)
    refine lv_goto (tgt := 23) hx hb dL_law_2133 (by decide) ?_
    refine W.widen (k := 57 + (k + 1)) (n := 6494 + 6 * (k + 1)) (by omega) (by omega) ?_
    exact ih _ μ' g' _ _ _ hI' hP.swp hD.swp hS (lv_sub hl [3, 4, 5, 6, 0] rfl)
set_option maxHeartbeats 4000000 in
set_option maxRecDepth 100000 in
theorem law_case_9 (C : LawC p l s m meth c b L xs D cA cM cO) {k : Nat} (hk : 5 * k + 5 ≤ L) (ih : LoopAt p l e s m below meth c b D ad am cA cM o cO (k + 1)) {σ μ : tyS} {g : Nat → Int64} {H : Heap} {locs : List Loc} {ls : Array Slot} (hI : Inv k σ μ) (hP : va_P D vwCl (wH ad cA o cO σ g ++ wM am cM μ) H) (hD : va_D (fun q : Nat => s.heap.size ≤ q) (wH ad cA o cO σ g ++ wM am cM μ)) (hS : va_S (fun q : Nat => s.heap.size ≤ q) s.heap H locs) (hl : lv_has ls 7 [(0, .ref b), (1, .ref (ad 0)), (2, .ref (am 0)), (3, .ref o), (4, .int (nI (5 * k)))]) : W p l e room_1 s m #[Value.ref b] below meth c H locs (57 + k) (6494 + 6 * k) (lw_Z below #[Value.ref b] s) (F0 m 811 ls []) := by
  obtain ⟨⟨hx, hb, hr, hml, hown0, hts0, hX, hbl, hlocks, hgv⟩, hl9, hOK, hNN, hNC, hCL, hK, hKM, hL⟩ := C
  have hown : s.vm.findClass RL = some m.cls := hown0
  have hts : ∀ w ∈ wsL_law, w.before #[Value.ref b] s = true := fun w h => hts0 w (wsL_law_in w h)
  have hS9 : CallFix p m c code 7 s #[.ref b] wsL_law RL := ⟨hx, hb, hml, hown, hts⟩
  have hA : ∀ q : Nat, s.heap.size ≤ q → (fun q : Nat => s.heap.size ≤ q) q := fun _ h => h
  have hbA : ¬ (fun q : Nat => s.heap.size ≤ q) b := Nat.not_le.mpr hbl
  obtain ⟨res, v, μ', eT, eM, ⟨kk, hkk, hth, hv⟩, hI'⟩ := op_promised hI (by omega) (xs (5 * k + 1))
  refine lv_aload_n hx hb dL_law_811 rfl (lv_at hl 1 rfl) ?_
  refine gz_arg (i := 5 * k) (j := 1) hx hb hX hbl hbA hS (by omega) hL rfl dL_law_812 dL_law_813 dL_law_815 dL_law_816 dL_law_817 (lv_at hl 0 rfl) (lv_at hl 4 rfl) ?_
  refine lv_aload_n hx hb dL_law_818 rfl (lv_at hl 3 rfl) ?_
  refine gz_H (As := [.ref (ad 0), .int (xs (5 * k + 1)), .ref o]) (rest := []) hS9 (tyh_promised l hl9 D ad cA o cO H.size σ g (xs (5 * k + 1)) res kk eT hkk) (vx_cwSW 3 hts gL_law_L_promised rfl rfl rfl hd_L_promised ⟨by decide, by decide⟩) hK hP hD hS hA hNN hOK hNC hCL rfl hl.1 rfl (Nat.le_of_ble_eq_true rfl) dL_law_819 ⟨by show _ ≤ 1114; omega, by show _ ≤ 14884; omega⟩ (fun g' H locs hg hP hD hS => ?_)
  refine lv_istore (lv' := [(5, .int (nI kk)), (0, .ref b), (1, .ref (ad 0)), (2, .ref (am 0)), (3, .ref o), (4, .int (nI (5 * k)))]) hx hb dL_law_822 hl (by decide) rfl (fun ls hl => ?_)
  refine lv_aload_n hx hb dL_law_824 rfl (lv_at hl 3 rfl) ?_
  refine gz_arg (i := 5 * k) (j := 1) hx hb hX hbl hbA hS (by omega) hL rfl dL_law_825 dL_law_826 dL_law_828 dL_law_829 dL_law_830 (lv_at hl 1 rfl) (lv_at hl 5 rfl) ?_
  refine gz_Mi (w := wM am cM) (As := [.int (xs (5 * k + 1))]) (rest := []) hS9 (tyc_M_promised l D am cM _ μ (xs (5 * k + 1)) v μ' eM) (cwV 1 hts gL_law_X5_promised rfl rfl rfl hd_X5_promised ⟨by decide, by decide⟩) hKM hP.swp hD.swp hS hA hNN (ci := 5) (q0 := 0) (N := 30) rfl (wM_0 am cM μ) rfl hl.1 rfl (Nat.le_of_ble_eq_true rfl) dL_law_831 ⟨by show _ ≤ 1114; omega, by show _ ≤ 14884; omega⟩ (fun H locs hP hD hS => ?_)
  refine lv_istore (lv' := [(6, .int v), (5, .int (nI kk)), (0, .ref b), (1, .ref (ad 0)), (2, .ref (am 0)), (3, .ref o), (4, .int (nI (5 * k)))]) hx hb dL_law_834 hl (by decide) rfl (fun ls hl => ?_)
  refine lv_aload_n hx hb dL_law_836 rfl (lv_at hl 4 rfl) ?_
  refine gz_Mi (w := wM am cM) (As := []) (rest := []) hS9 (tyc_M_thrown l D am cM _ μ' (μ'.2 0) rfl) (cwV 0 hts gL_law_X5_thrown rfl rfl rfl hd_X5_thrown ⟨by decide, by decide⟩) hKM hP hD hS hA hNN (ci := 5) (q0 := 0) (N := 30) rfl (wM_0 am cM μ') rfl hl.1 rfl (Nat.le_of_ble_eq_true rfl) dL_law_837 ⟨by show _ ≤ 1114; omega, by show _ ≤ 14884; omega⟩ (fun H locs hP hD hS => ?_)
  refine lv_iload hx hb dL_law_840 (lv_at hl 1 rfl) ?_
  refine lv_icmp_eq (tgt := 847) hx hb dL_law_842 (by decide) (fun _ => ?_) (fun c9 => absurd hth c9)
  refine lv_iload hx hb dL_law_847 (lv_at hl 1 rfl) ?_
  refine lv_if_ne (tgt := 864) hx hb dL_law_849 (by decide) (fun _ => ?_) (fun c8 => ?_)
  · refine lv_goto (tgt := 2130) hx hb dL_law_864 (by decide) ?_
    refine lv_iinc (v := nI (5 * (k + 1))) (lv' := [(4, .int (nI (5 * (k + 1)))), (6, .int v), (5, .int (nI kk)), (0, .ref b), (1, .ref (ad 0)), (2, .ref (am 0)), (3, .ref o)]) hx hb dL_law_2130 hl (k := 6) rfl (nI_add _ 5) (by decide) rfl (fun ls hl => ?_)
    refine lv_goto (tgt := 23) hx hb dL_law_2133 (by decide) ?_
    refine W.widen (k := 57 + (k + 1)) (n := 6494 + 6 * (k + 1)) (by omega) (by omega) ?_
    exact ih _ μ' g' _ _ _ hI' hP.swp hD.swp hS (lv_sub hl [3, 4, 5, 6, 0] rfl)
  · have h0 := nI_kk hkk (by decide) c8
    have hg := hg h0
    have hv := hv h0
    have hP2 := hP.swp
    refine lv_aload_n hx hb dL_law_852 rfl (lv_at hl 5 rfl) ?_
    refine lv_iconst (v := 0) hx hb dL_law_853 (by decide) ?_
    refine va_lald (f := g') hx hb hK hP2 32 26 rfl rfl vp_in_01 dL_law_854 ?_
    rw [sb_cl0]
    refine lv_iload hx hb dL_law_855 (lv_at hl 0 rfl) ?_
    refine lv_i2l (v := v.toInt64) hx hb dL_law_857 rfl ?_
    refine W.lcmp hx hb dL_law_858 ?_
    refine lv_if_eq (tgt := 864) hx hb dL_law_859 (by decide) (fun _ => ?_) (fun c7 => absurd ((lg_cmp_eq _ _).mpr (by rw [hg, hv])) c7)
    refine lv_goto (tgt := 2130) hx hb dL_law_864 (by decide) ?_
    refine lv_iinc (v := nI (5 * (k + 1))) (lv' := [(4, .int (nI (5 * (k + 1)))), (6, .int v), (5, .int (nI kk)), (0, .ref b), (1, .ref (ad 0)), (2, .ref (am 0)), (3, .ref o)]) hx hb dL_law_2130 hl (k := 6) rfl (nI_add _ 5) (by decide) rfl (fun ls hl => ?_)
    refine lv_goto (tgt := 23) hx hb dL_law_2133 (by decide) ?_
    refine W.widen (k := 57 + (k + 1)) (n := 6494 + 6 * (k + 1)) (by omega) (by omega) ?_
    exact ih _ μ' g' _ _ _ hI' hP.swp hD.swp hS (lv_sub hl [3, 4, 5, 6, 0] rfl)
set_option maxHeartbeats 4000000 in
set_option maxRecDepth 100000 in
theorem law_case_10 (C : LawC p l s m meth c b L xs D cA cM cO) {k : Nat} (hk : 5 * k + 5 ≤ L) (ih : LoopAt p l e s m below meth c b D ad am cA cM o cO (k + 1)) {σ μ : tyS} {g : Nat → Int64} {H : Heap} {locs : List Loc} {ls : Array Slot} (hI : Inv k σ μ) (hP : va_P D vwCl (wH ad cA o cO σ g ++ wM am cM μ) H) (hD : va_D (fun q : Nat => s.heap.size ≤ q) (wH ad cA o cO σ g ++ wM am cM μ)) (hS : va_S (fun q : Nat => s.heap.size ≤ q) s.heap H locs) (hl : lv_has ls 7 [(0, .ref b), (1, .ref (ad 0)), (2, .ref (am 0)), (3, .ref o), (4, .int (nI (5 * k)))]) : W p l e room_1 s m #[Value.ref b] below meth c H locs (57 + k) (6494 + 6 * k) (lw_Z below #[Value.ref b] s) (F0 m 867 ls []) := by
  obtain ⟨⟨hx, hb, hr, hml, hown0, hts0, hX, hbl, hlocks, hgv⟩, hl9, hOK, hNN, hNC, hCL, hK, hKM, hL⟩ := C
  have hown : s.vm.findClass RL = some m.cls := hown0
  have hts : ∀ w ∈ wsL_law, w.before #[Value.ref b] s = true := fun w h => hts0 w (wsL_law_in w h)
  have hS9 : CallFix p m c code 7 s #[.ref b] wsL_law RL := ⟨hx, hb, hml, hown, hts⟩
  have hA : ∀ q : Nat, s.heap.size ≤ q → (fun q : Nat => s.heap.size ≤ q) q := fun _ h => h
  have hbA : ¬ (fun q : Nat => s.heap.size ≤ q) b := Nat.not_le.mpr hbl
  obtain ⟨res, v, μ', eT, eM, ⟨kk, hkk, hth, hv⟩, hI'⟩ := op_call hI (by omega) (xs (5 * k + 1)) (xs (5 * k + 2))
  refine lv_aload_n hx hb dL_law_867 rfl (lv_at hl 1 rfl) ?_
  refine gz_arg (i := 5 * k) (j := 1) hx hb hX hbl hbA hS (by omega) hL rfl dL_law_868 dL_law_869 dL_law_871 dL_law_872 dL_law_873 (lv_at hl 0 rfl) (lv_at hl 4 rfl) ?_
  refine gz_arg (i := 5 * k) (j := 2) hx hb hX hbl hbA hS (by omega) hL rfl dL_law_874 dL_law_875 dL_law_877 dL_law_878 dL_law_879 (lv_at hl 0 rfl) (lv_at hl 4 rfl) ?_
  refine lv_aload_n hx hb dL_law_880 rfl (lv_at hl 3 rfl) ?_
  refine gz_H (As := [.ref (ad 0), .int (xs (5 * k + 1)), .int (xs (5 * k + 2)), .ref o]) (rest := []) hS9 (tyh_call l hl9 D ad cA o cO H.size σ g (xs (5 * k + 1)) (xs (5 * k + 2)) res kk eT hkk) (vx_cwSW 4 hts gL_law_L_call rfl rfl rfl hd_L_call ⟨by decide, by decide⟩) hK hP hD hS hA hNN hOK hNC hCL rfl hl.1 rfl (Nat.le_of_ble_eq_true rfl) dL_law_881 ⟨by show _ ≤ 1114; omega, by show _ ≤ 14884; omega⟩ (fun g' H locs hg hP hD hS => ?_)
  refine lv_istore (lv' := [(5, .int (nI kk)), (0, .ref b), (1, .ref (ad 0)), (2, .ref (am 0)), (3, .ref o), (4, .int (nI (5 * k)))]) hx hb dL_law_884 hl (by decide) rfl (fun ls hl => ?_)
  refine lv_aload_n hx hb dL_law_886 rfl (lv_at hl 3 rfl) ?_
  refine gz_arg (i := 5 * k) (j := 1) hx hb hX hbl hbA hS (by omega) hL rfl dL_law_887 dL_law_888 dL_law_890 dL_law_891 dL_law_892 (lv_at hl 1 rfl) (lv_at hl 5 rfl) ?_
  refine gz_arg (i := 5 * k) (j := 2) hx hb hX hbl hbA hS (by omega) hL rfl dL_law_893 dL_law_894 dL_law_896 dL_law_897 dL_law_898 (lv_at hl 1 rfl) (lv_at hl 5 rfl) ?_
  refine gz_Mi (w := wM am cM) (As := [.int (xs (5 * k + 1)), .int (xs (5 * k + 2))]) (rest := []) hS9 (tyc_M_call l D am cM _ μ (xs (5 * k + 1)) (xs (5 * k + 2)) v μ' eM) (cwV 2 hts gL_law_X5_call rfl rfl rfl hd_X5_call ⟨by decide, by decide⟩) hKM hP.swp hD.swp hS hA hNN (ci := 5) (q0 := 0) (N := 30) rfl (wM_0 am cM μ) rfl hl.1 rfl (Nat.le_of_ble_eq_true rfl) dL_law_899 ⟨by show _ ≤ 1114; omega, by show _ ≤ 14884; omega⟩ (fun H locs hP hD hS => ?_)
  refine lv_istore (lv' := [(6, .int v), (5, .int (nI kk)), (0, .ref b), (1, .ref (ad 0)), (2, .ref (am 0)), (3, .ref o), (4, .int (nI (5 * k)))]) hx hb dL_law_902 hl (by decide) rfl (fun ls hl => ?_)
  refine lv_aload_n hx hb dL_law_904 rfl (lv_at hl 4 rfl) ?_
  refine gz_Mi (w := wM am cM) (As := []) (rest := []) hS9 (tyc_M_thrown l D am cM _ μ' (μ'.2 0) rfl) (cwV 0 hts gL_law_X5_thrown rfl rfl rfl hd_X5_thrown ⟨by decide, by decide⟩) hKM hP hD hS hA hNN (ci := 5) (q0 := 0) (N := 30) rfl (wM_0 am cM μ') rfl hl.1 rfl (Nat.le_of_ble_eq_true rfl) dL_law_905 ⟨by show _ ≤ 1114; omega, by show _ ≤ 14884; omega⟩ (fun H locs hP hD hS => ?_)
  refine lv_iload hx hb dL_law_908 (lv_at hl 1 rfl) ?_
  refine lv_icmp_eq (tgt := 915) hx hb dL_law_910 (by decide) (fun _ => ?_) (fun c9 => absurd hth c9)
  refine lv_iload hx hb dL_law_915 (lv_at hl 1 rfl) ?_
  refine lv_if_ne (tgt := 932) hx hb dL_law_917 (by decide) (fun _ => ?_) (fun c8 => ?_)
  · refine lv_goto (tgt := 2130) hx hb dL_law_932 (by decide) ?_
    refine lv_iinc (v := nI (5 * (k + 1))) (lv' := [(4, .int (nI (5 * (k + 1)))), (6, .int v), (5, .int (nI kk)), (0, .ref b), (1, .ref (ad 0)), (2, .ref (am 0)), (3, .ref o)]) hx hb dL_law_2130 hl (k := 6) rfl (nI_add _ 5) (by decide) rfl (fun ls hl => ?_)
    refine lv_goto (tgt := 23) hx hb dL_law_2133 (by decide) ?_
    refine W.widen (k := 57 + (k + 1)) (n := 6494 + 6 * (k + 1)) (by omega) (by omega) ?_
    exact ih _ μ' g' _ _ _ hI' hP.swp hD.swp hS (lv_sub hl [3, 4, 5, 6, 0] rfl)
  · have h0 := nI_kk hkk (by decide) c8
    have hg := hg h0
    have hv := hv h0
    have hP2 := hP.swp
    refine lv_aload_n hx hb dL_law_920 rfl (lv_at hl 5 rfl) ?_
    refine lv_iconst (v := 0) hx hb dL_law_921 (by decide) ?_
    refine va_lald (f := g') hx hb hK hP2 32 26 rfl rfl vp_in_01 dL_law_922 ?_
    rw [sb_cl0]
    refine lv_iload hx hb dL_law_923 (lv_at hl 0 rfl) ?_
    refine lv_i2l (v := v.toInt64) hx hb dL_law_925 rfl ?_
    refine W.lcmp hx hb dL_law_926 ?_
    refine lv_if_eq (tgt := 932) hx hb dL_law_927 (by decide) (fun _ => ?_) (fun c7 => absurd ((lg_cmp_eq _ _).mpr (by rw [hg, hv])) c7)
    refine lv_goto (tgt := 2130) hx hb dL_law_932 (by decide) ?_
    refine lv_iinc (v := nI (5 * (k + 1))) (lv' := [(4, .int (nI (5 * (k + 1)))), (6, .int v), (5, .int (nI kk)), (0, .ref b), (1, .ref (ad 0)), (2, .ref (am 0)), (3, .ref o)]) hx hb dL_law_2130 hl (k := 6) rfl (nI_add _ 5) (by decide) rfl (fun ls hl => ?_)
    refine lv_goto (tgt := 23) hx hb dL_law_2133 (by decide) ?_
    refine W.widen (k := 57 + (k + 1)) (n := 6494 + 6 * (k + 1)) (by omega) (by omega) ?_
    exact ih _ μ' g' _ _ _ hI' hP.swp hD.swp hS (lv_sub hl [3, 4, 5, 6, 0] rfl)
end LAW
