/-! ===== the law's start ===== -/
section START
variable {p : Program} {l : Launch} {e : Env} {s : State} {m : MethodId} {below : List Frame} {meth : Method} {c : Code} {b L : Nat} {xs : Nat → Int32}
set_option maxHeartbeats 4000000 in
set_option maxRecDepth 100000 in
theorem start_gOK (C0 : lw_At p s m meth c b L xs) (hc : ∃ q, s.vm.findClass RX4 = some q) : gOK gStr (fun q : Nat => s.heap.size ≤ q) s s.heap := by
  obtain ⟨hx, hb, hr, hml, hown, hts0, hX, hbl, hlocks, hgv⟩ := C0
  have hs := flat_of_before _ hgv
  have hA9 : ∀ a : Nat, a < s.heap.size → ¬ (fun q : Nat => s.heap.size ≤ q) a := fun a h => Nat.not_le.mpr h
  obtain ⟨q, hq⟩ := hc
  refine ⟨vx_Zqof (hts0 (Cond.laysStatic "java/lang/Throwable" "UNASSIGNED_STACK" "[Ljava/lang/StackTraceElement;") (List.mem_of_getElem? (i := 263) (by decide +kernel))) (hts0 (Cond.initialized "java/lang/Throwable") (List.mem_of_getElem? (i := 44) (by decide +kernel))) (hs _ (by decide +kernel)) hA9, vx_Zqof (hts0 (Cond.laysStatic "java/lang/Throwable" "SUPPRESSED_SENTINEL" "Ljava/util/List;") (List.mem_of_getElem? (i := 265) (by decide +kernel))) (hts0 (Cond.initialized "java/lang/Throwable") (List.mem_of_getElem? (i := 44) (by decide +kernel))) (hs _ (by decide +kernel)) hA9, ?_, ?_⟩
  · intro w hw
    simp only [gNw, List.mem_cons, List.not_mem_nil, or_false] at hw
    rcases hw with rfl | rfl | rfl | rfl | rfl | rfl
    · exact va_Nw.of rfl (hts0 (Cond.castable "java/lang/IllegalArgumentException" "java/lang/IllegalArgumentException") (List.mem_of_getElem? (i := 238) (by decide +kernel)))
    · exact va_Nw.of rfl (hts0 (Cond.castable "java/lang/IllegalStateException" "java/lang/IllegalStateException") (List.mem_of_getElem? (i := 313) (by decide +kernel)))
    · exact va_Nw.of rfl (hts0 (Cond.castable "java/lang/IndexOutOfBoundsException" "java/lang/IndexOutOfBoundsException") (List.mem_of_getElem? (i := 408) (by decide +kernel)))
    · exact va_Nw.of rfl (hts0 (Cond.declares (Bundle.initS "java/lang/RuntimeException")) (List.mem_of_getElem? (i := 240) (by decide +kernel)))
    · exact va_Nw.of rfl (hts0 (Cond.declares (Bundle.initS "java/lang/Exception")) (List.mem_of_getElem? (i := 242) (by decide +kernel)))
    · exact va_Nw.of rfl (hts0 (Cond.declares (Bundle.initS Bundle.tN)) (List.mem_of_getElem? (i := 244) (by decide +kernel)))
  · intro w hw
    simp only [gStr, List.mem_cons, List.not_mem_nil, or_false] at hw
    rcases hw with rfl | rfl | rfl | rfl | rfl | rfl | rfl | rfl | rfl | rfl | rfl | rfl | rfl | rfl | rfl | rfl | rfl | rfl | rfl | rfl | rfl | rfl | rfl | rfl | rfl | rfl | rfl | rfl | rfl | rfl | rfl | rfl | rfl
    · have h1 := hts0 (Cond.stringRef RX4 75 "no wagon or no room is left") (List.mem_of_getElem? (i := 320) (by decide +kernel))
      obtain ⟨-, -, -, sa, -, -, -, -, -, hev⟩ := Cond.stringRef_spec hq h1
      exact ⟨sa, vk_R.of h1 hev⟩
    · have h1 := hts0 (Cond.stringRef RX4 88 "the tracks are the same, or many is out of range") (List.mem_of_getElem? (i := 346) (by decide +kernel))
      obtain ⟨-, -, -, sa, -, -, -, -, -, hev⟩ := Cond.stringRef_spec hq h1
      exact ⟨sa, vk_R.of h1 hev⟩
    · have h1 := hts0 (Cond.stringRef RX4 95 "not so many wagons, or not so much room") (List.mem_of_getElem? (i := 351) (by decide +kernel))
      obtain ⟨-, -, -, sa, -, -, -, -, -, hev⟩ := Cond.stringRef_spec hq h1
      exact ⟨sa, vk_R.of h1 hev⟩
    · have h1 := hts0 (Cond.stringRef RX4 105 "there is no wagon") (List.mem_of_getElem? (i := 372) (by decide +kernel))
      obtain ⟨-, -, -, sa, -, -, -, -, -, hev⟩ := Cond.stringRef_spec hq h1
      exact ⟨sa, vk_R.of h1 hev⟩
    · have h1 := hts0 (Cond.stringRef RX4 114 "a grain is out of range, or both are the same") (List.mem_of_getElem? (i := 387) (by decide +kernel))
      obtain ⟨-, -, -, sa, -, -, -, -, -, hev⟩ := Cond.stringRef_spec hq h1
      exact ⟨sa, vk_R.of h1 hev⟩
    · have h1 := hts0 (Cond.stringRef RX4 143 "the customer has a call, or there were too many") (List.mem_of_getElem? (i := 494) (by decide +kernel))
      obtain ⟨-, -, -, sa, -, -, -, -, -, hev⟩ := Cond.stringRef_spec hq h1
      exact ⟨sa, vk_R.of h1 hev⟩
    · have h1 := hts0 (Cond.stringRef RX4 154 "grain is out of range") (List.mem_of_getElem? (i := 534) (by decide +kernel))
      obtain ⟨-, -, -, sa, -, -, -, -, -, hev⟩ := Cond.stringRef_spec hq h1
      exact ⟨sa, vk_R.of h1 hev⟩
    · have h1 := hts0 (Cond.stringRef RX4 166 "another grain, or too many bookings") (List.mem_of_getElem? (i := 556) (by decide +kernel))
      obtain ⟨-, -, -, sa, -, -, -, -, -, hev⟩ := Cond.stringRef_spec hq h1
      exact ⟨sa, vk_R.of h1 hev⟩
    · have h1 := hts0 (Cond.stringRef RX4 187 "no booking is open") (List.mem_of_getElem? (i := 592) (by decide +kernel))
      obtain ⟨-, -, -, sa, -, -, -, -, -, hev⟩ := Cond.stringRef_spec hq h1
      exact ⟨sa, vk_R.of h1 hev⟩
    · have h1 := hts0 (Cond.stringRef RX4 199 "the booking can\'t be taken up in this call") (List.mem_of_getElem? (i := 625) (by decide +kernel))
      obtain ⟨-, -, -, sa, -, -, -, -, -, hev⟩ := Cond.stringRef_spec hq h1
      exact ⟨sa, vk_R.of h1 hev⟩
    · have h1 := hts0 (Cond.stringRef RX4 204 "the booking can\'t be cancelled in this call") (List.mem_of_getElem? (i := 637) (by decide +kernel))
      obtain ⟨-, -, -, sa, -, -, -, -, -, hev⟩ := Cond.stringRef_spec hq h1
      exact ⟨sa, vk_R.of h1 hev⟩
    · have h1 := hts0 (Cond.stringRef RX4 224 "the trunk is cut") (List.mem_of_getElem? (i := 694) (by decide +kernel))
      obtain ⟨-, -, -, sa, -, -, -, -, -, hev⟩ := Cond.stringRef_spec hq h1
      exact ⟨sa, vk_R.of h1 hev⟩
    · have h1 := hts0 (Cond.stringRef RX4 232 "the trunk is not cut") (List.mem_of_getElem? (i := 714) (by decide +kernel))
      obtain ⟨-, -, -, sa, -, -, -, -, -, hev⟩ := Cond.stringRef_spec hq h1
      exact ⟨sa, vk_R.of h1 hev⟩
    · have h1 := hts0 (Cond.stringRef RX4 234 "lines is out of range") (List.mem_of_getElem? (i := 729) (by decide +kernel))
      obtain ⟨-, -, -, sa, -, -, -, -, -, hev⟩ := Cond.stringRef_spec hq h1
      exact ⟨sa, vk_R.of h1 hev⟩
    · have h1 := hts0 (Cond.stringRef RX4 239 "more calls to the yard go on") (List.mem_of_getElem? (i := 731) (by decide +kernel))
      obtain ⟨-, -, -, sa, -, -, -, -, -, hev⟩ := Cond.stringRef_spec hq h1
      exact ⟨sa, vk_R.of h1 hev⟩
    · have h1 := hts0 (Cond.stringRef RX4 244 "ticks is out of range") (List.mem_of_getElem? (i := 743) (by decide +kernel))
      obtain ⟨-, -, -, sa, -, -, -, -, -, hev⟩ := Cond.stringRef_spec hq h1
      exact ⟨sa, vk_R.of h1 hev⟩
    · have h1 := hts0 (Cond.stringRef RX4 249 "too many ticks would have gone by") (List.mem_of_getElem? (i := 744) (by decide +kernel))
      obtain ⟨-, -, -, sa, -, -, -, -, -, hev⟩ := Cond.stringRef_spec hq h1
      exact ⟨sa, vk_R.of h1 hev⟩
    · have h1 := hts0 (Cond.stringRef RX4 263 "the booking has no such wagon") (List.mem_of_getElem? (i := 771) (by decide +kernel))
      obtain ⟨-, -, -, sa, -, -, -, -, -, hev⟩ := Cond.stringRef_spec hq h1
      exact ⟨sa, vk_R.of h1 hev⟩
    · have h1 := hts0 (Cond.stringRef RX4 267 "the booking is not half") (List.mem_of_getElem? (i := 780) (by decide +kernel))
      obtain ⟨-, -, -, sa, -, -, -, -, -, hev⟩ := Cond.stringRef_spec hq h1
      exact ⟨sa, vk_R.of h1 hev⟩
    · have h1 := hts0 (Cond.stringRef RX4 272 "both yards are the same") (List.mem_of_getElem? (i := 792) (by decide +kernel))
      obtain ⟨-, -, -, sa, -, -, -, -, -, hev⟩ := Cond.stringRef_spec hq h1
      exact ⟨sa, vk_R.of h1 hev⟩
    · have h1 := hts0 (Cond.stringRef RX4 280 "no train can depart from the track") (List.mem_of_getElem? (i := 801) (by decide +kernel))
      obtain ⟨-, -, -, sa, -, -, -, -, -, hev⟩ := Cond.stringRef_spec hq h1
      exact ⟨sa, vk_R.of h1 hev⟩
    · have h1 := hts0 (Cond.stringRef RX4 285 "there never was such a train") (List.mem_of_getElem? (i := 813) (by decide +kernel))
      obtain ⟨-, -, -, sa, -, -, -, -, -, hev⟩ := Cond.stringRef_spec hq h1
      exact ⟨sa, vk_R.of h1 hev⟩
    · have h1 := hts0 (Cond.stringRef RX4 290 "track is out of range") (List.mem_of_getElem? (i := 814) (by decide +kernel))
      obtain ⟨-, -, -, sa, -, -, -, -, -, hev⟩ := Cond.stringRef_spec hq h1
      exact ⟨sa, vk_R.of h1 hev⟩
    · have h1 := hts0 (Cond.stringRef RX4 292 "the train has arrived, or the track has not enough room") (List.mem_of_getElem? (i := 815) (by decide +kernel))
      obtain ⟨-, -, -, sa, -, -, -, -, -, hev⟩ := Cond.stringRef_spec hq h1
      exact ⟨sa, vk_R.of h1 hev⟩
    · have h1 := hts0 (Cond.stringRef RX4 300 "yard is out of range") (List.mem_of_getElem? (i := 371) (by decide +kernel))
      obtain ⟨-, -, -, sa, -, -, -, -, -, hev⟩ := Cond.stringRef_spec hq h1
      exact ⟨sa, vk_R.of h1 hev⟩
    · have h1 := hts0 (Cond.stringRef RX4 302 "yard or track is out of range") (List.mem_of_getElem? (i := 277) (by decide +kernel))
      obtain ⟨-, -, -, sa, -, -, -, -, -, hev⟩ := Cond.stringRef_spec hq h1
      exact ⟨sa, vk_R.of h1 hev⟩
    · have h1 := hts0 (Cond.stringRef RX4 304 "customer is out of range") (List.mem_of_getElem? (i := 485) (by decide +kernel))
      obtain ⟨-, -, -, sa, -, -, -, -, -, hev⟩ := Cond.stringRef_spec hq h1
      exact ⟨sa, vk_R.of h1 hev⟩
    · have h1 := hts0 (Cond.stringRef RX4 309 "there is no such trunk") (List.mem_of_getElem? (i := 688) (by decide +kernel))
      obtain ⟨-, -, -, sa, -, -, -, -, -, hev⟩ := Cond.stringRef_spec hq h1
      exact ⟨sa, vk_R.of h1 hev⟩
    · have h1 := hts0 (Cond.stringRef RX4 311 "there is no such wagon") (List.mem_of_getElem? (i := 451) (by decide +kernel))
      obtain ⟨-, -, -, sa, -, -, -, -, -, hev⟩ := Cond.stringRef_spec hq h1
      exact ⟨sa, vk_R.of h1 hev⟩
    · have h1 := hts0 (Cond.stringRef RX4 316 "there never was such a call") (List.mem_of_getElem? (i := 533) (by decide +kernel))
      obtain ⟨-, -, -, sa, -, -, -, -, -, hev⟩ := Cond.stringRef_spec hq h1
      exact ⟨sa, vk_R.of h1 hev⟩
    · have h1 := hts0 (Cond.stringRef RX4 321 "the call does not go on") (List.mem_of_getElem? (i := 543) (by decide +kernel))
      obtain ⟨-, -, -, sa, -, -, -, -, -, hev⟩ := Cond.stringRef_spec hq h1
      exact ⟨sa, vk_R.of h1 hev⟩
    · have h1 := hts0 (Cond.stringRef RX4 323 "there never was such a booking") (List.mem_of_getElem? (i := 608) (by decide +kernel))
      obtain ⟨-, -, -, sa, -, -, -, -, -, hev⟩ := Cond.stringRef_spec hq h1
      exact ⟨sa, vk_R.of h1 hev⟩
    · have h1 := hts0 (Cond.stringRef RX4 325 "there is no wagon at place") (List.mem_of_getElem? (i := 415) (by decide +kernel))
      obtain ⟨-, -, -, sa, -, -, -, -, -, hev⟩ := Cond.stringRef_spec hq h1
      exact ⟨sa, vk_R.of h1 hev⟩
theorem start_gNC (hgv : (Jvm.Cond.and given_1 narrow_1).before #[Value.ref b] s = true) : gNC s := by
  have hs := flat_of_before _ hgv
  intro q hq
  simp only [gNcs, List.mem_cons, List.not_mem_nil, or_false] at hq
  rcases hq with rfl | rfl | rfl | rfl | rfl | rfl <;> exact va_Nc.of (hs _ (by decide +kernel))
theorem start_gNN (hts0 : ∀ w ∈ lw_tbl, w.before #[Value.ref b] s = true) : gNN s := by
  intro w hw
  simp only [gNn, List.mem_cons, List.not_mem_nil, or_false] at hw
  rcases hw with rfl | rfl | rfl
  · exact va_Nw.of rfl (hts0 (Cond.methodLinkNest RX4 11 yX2_init RX4) (List.mem_of_getElem? (i := 60) (by decide +kernel)))
  · exact va_Nw.of rfl (hts0 (Cond.methodLinkNest RX4 21 yX0_init RX4) (List.mem_of_getElem? (i := 74) (by decide +kernel)))
  · exact va_Nw.of rfl (hts0 (Cond.methodLinkNest RX3 62 yX4_slotOf RX4) (List.mem_of_getElem? (i := 515) (by decide +kernel)))
theorem start_gCL (hts0 : ∀ w ∈ lw_tbl, w.before #[Value.ref b] s = true) : gCL s := by
  intro w hw a9
  simp only [gCl, List.mem_cons, List.not_mem_nil, or_false] at hw
  rcases hw with rfl | rfl | rfl
  · exact va_tabs (c := .classLink RL 13 "java/lang/IllegalArgumentException") (u := s) rfl rfl (hts0 (Cond.classLink RL 13 "java/lang/IllegalArgumentException") (List.mem_of_getElem? (i := 221) (by decide +kernel)))
  · exact va_tabs (c := .classLink RL 15 "java/lang/IllegalStateException") (u := s) rfl rfl (hts0 (Cond.classLink RL 15 "java/lang/IllegalStateException") (List.mem_of_getElem? (i := 222) (by decide +kernel)))
  · exact va_tabs (c := .classLink RL 36 "java/lang/IndexOutOfBoundsException") (u := s) rfl rfl (hts0 (Cond.classLink RL 36 "java/lang/IndexOutOfBoundsException") (List.mem_of_getElem? (i := 398) (by decide +kernel)))
theorem start_K (hts0 : ∀ w ∈ lw_tbl, w.before #[Value.ref b] s = true) : ∃ D : va_G, va_K D vwCl [] s := by
  obtain ⟨c0, i0, k0⟩ := u_known (C := RX0) (T := TX0) (N := 4) hts0 in_wsX00 (hts0 (Cond.instantiable RX0 4) (List.mem_of_getElem? (i := 73) (by decide +kernel)))
  obtain ⟨c1, i1, k1⟩ := u_known (C := RX1) (T := TX1) (N := 9) hts0 in_wsX10 (hts0 (Cond.instantiable RX1 9) (List.mem_of_getElem? (i := 92) (by decide +kernel)))
  obtain ⟨c2, i2, k2⟩ := u_known (C := RX2) (T := TX2) (N := 2) hts0 in_wsX20 (hts0 (Cond.instantiable RX2 2) (List.mem_of_getElem? (i := 59) (by decide +kernel)))
  obtain ⟨c3, i3, k3⟩ := u_known (C := RX3) (T := TX3) (N := 9) hts0 in_wsX30 (hts0 (Cond.instantiable RX3 9) (List.mem_of_getElem? (i := 129) (by decide +kernel)))
  obtain ⟨c4, i4, k4⟩ := u_known (C := RX4) (T := TX4) (N := 12) hts0 in_wsX40 (hts0 (Cond.instantiable RX4 12) (List.mem_of_getElem? (i := 51) (by decide +kernel)))
  obtain ⟨c5, i5, k5⟩ := u_known (C := RX5) (T := TX5) (N := 30) hts0 in_wsX50 (hts0 (Cond.instantiable RX5 30) (List.mem_of_getElem? (i := 821) (by decide +kernel)))
  refine ⟨(fun k => match k with | 0 => c0 | 1 => c1 | 2 => c2 | 3 => c3 | 4 => c4 | _ => c5, fun k => match k with | 0 => i0 | 1 => i1 | 2 => i2 | 3 => i3 | 4 => i4 | _ => i5), fun k q h => ?_, fun k q h => by simp at h⟩
  match k, h with
  | 0, h => cases h; exact k0
  | 1, h => cases h; exact k1
  | 2, h => cases h; exact k2
  | 3, h => cases h; exact k3
  | 4, h => cases h; exact k4
  | 5, h => cases h; exact k5
  | k + 6, h => simp [vwCl] at h
end START
set_option maxHeartbeats 8000000 in
set_option maxRecDepth 100000 in
theorem whole_start {p : Program} {e : Env} {s : State} {m : MethodId} {below : List Frame} {meth : Method} {c : Code} (l : Launch) (hflags : l.flags = flags0) {b L : Nat} {xs : Nat → Int32} (hL : L ≤ 2560) (C0 : lw_At p s m meth c b L xs) : W p l e room_1 s m #[Value.ref b] below meth c s.heap [] 0 0 (lw_Z below #[Value.ref b] s) (entryFrame m ([Value.ref b] : List Value).toArray 7) := by
  have hl9 : l.stackTraces = false := by unfold Launch.stackTraces; rw [hflags]; decide
  have C1 := C0
  obtain ⟨hx, hb, hr, hml, hown0, hts0, hX, hbl, hlocks, hgv⟩ := C0
  have hown : s.vm.findClass RL = some m.cls := hown0
  have hts : ∀ w ∈ wsL_law, w.before #[Value.ref b] s = true := fun w h => hts0 w (wsL_law_in w h)
  have hS9 : CallFix p m c code 7 s #[.ref b] wsL_law RL := ⟨hx, hb, hml, hown, hts⟩
  obtain ⟨D, hK⟩ := start_K hts0
  have hNN := start_gNN hts0
  have hOK := start_gOK C1 ⟨_, (hK.1 4 _ rfl).2.1⟩
  have hNC := start_gNC hgv
  have hCL := start_gCL hts0
  have hA : ∀ q : Nat, s.heap.size ≤ q → (fun q : Nat => s.heap.size ≤ q) q := fun _ h => h
  have hbA : ¬ (fun q : Nat => s.heap.size ≤ q) b := Nat.not_le.mpr hbl
  have hS : va_S (fun q : Nat => s.heap.size ≤ q) s.heap s.heap [] := va_S.rf
  generalize hAe : (fun q : Nat => s.heap.size ≤ q) = A at hS hA
  have hP : va_P D vwCl [] s.heap := fun k q h => by simp at h
  have hD : va_D A [] := ⟨fun i j p q h => by simp at h, fun k q h => by simp at h⟩
  have hl := lv_entry ([.ref b]) (n := 7) (Nat.le_of_ble_eq_true rfl)
  rw [lg_entry_eq]
  generalize (lg_sl ([.ref b]) ++ List.replicate (7 - (lg_sl ([.ref b])).length) Slot.unset).toArray = ls at hl ⊢
  have hl : lv_has ls 7 [(0, .ref b)] := hl
  have hT1 := hts0 (.classLink RL 8 RX4) (List.mem_of_getElem? (i := 50) (by decide +kernel))
  have hT2 := hts0 (.instantiable RX4 12) (List.mem_of_getElem? (i := 51) (by decide +kernel))
  have hT3 := hts0 (.initialized RX4) (List.mem_of_getElem? (i := 37) (by decide +kernel))
  have hT4 := hts0 (.methodLink RL 108 yX4_init) (List.mem_of_getElem? (i := 52) (by decide +kernel))
  have hT5 := hts0 (.instanceMethod yX4_init) (List.mem_of_getElem? (i := 53) (by decide +kernel))
  have hM1 := hts0 (.classLink RL 109 RX5) (List.mem_of_getElem? (i := 820) (by decide +kernel))
  have hM2 := hts0 (.instantiable RX5 30) (List.mem_of_getElem? (i := 821) (by decide +kernel))
  have hM3 := hts0 (.initialized RX5) (List.mem_of_getElem? (i := 43) (by decide +kernel))
  have hM4 := hts0 (.methodLink RL 111 yX5_init) (List.mem_of_getElem? (i := 822) (by decide +kernel))
  have hM5 := hts0 (.instanceMethod yX5_init) (List.mem_of_getElem? (i := 823) (by decide +kernel))
  have hL1 := hts0 (.arrayClass .long) (List.mem_of_getElem? (i := 1143) (by decide +kernel))
  refine va_new (ci := 4) (fs := [.null, .null, .null, .null, .null, .null, .null, .null, .int 0, .int 0, .int 0, .int 0]) (C := RX4) (T := TX4) (N := 12) hx hb hts0 in_wsX40 tyX4 tyX4_ok hown hT1 hT2 hT3 hK hP hD hS hA rfl (by decide) (Nat.le_of_ble_eq_true rfl) (Nat.le_of_ble_eq_true rfl) dL_law_0 (fun q1 H hP hD hS => ?_)
  have hP : va_P D vwCl [(q1, .inr (4, [.null, .null, .null, .null, .null, .null, .null, .null, .int 0, .int 0, .int 0, .int 0]))] H := hP
  have hD : va_D A [(q1, .inr (4, [.null, .null, .null, .null, .null, .null, .null, .null, .int 0, .int 0, .int 0, .int 0]))] := hD
  refine W.widen (k := 1) (n := 12) (Nat.le_of_ble_eq_true rfl) (Nat.le_of_ble_eq_true rfl) ?_
  refine lv_dup hx hb dL_law_3 rfl ?_
  have hFc := gFree hD hS hA
  refine va_callv (va_runI (As := []) (rest := [.ref q1]) hS9 (tyi_T l D q1 H.size) (cwI 0 hts gL_law_X4_init rfl rfl rfl hT3 hT4 hT5 rfl hdi_X4 ⟨by decide, by decide⟩) ⟨fun a U g mk h => ⟨h.1, h.2.1, h.2.2.1, va_K.moved (u := U) (U := U.calling g mk a) (Vm.Alike.refl U.vm) h.2.2.2.1, h.2.2.2.2.1, gNN.same (u := U) rfl h.2.2.2.2.2⟩, fun U hU hWm => ⟨rfl, by rw [hU], by rw [hU]; exact hP, va_K.moved hWm.alike hK, hD.weaken (fun _ _ _ _ => trivial), hNN.warm hWm⟩⟩ rfl rfl hl.1 rfl (lv_room (Nat.le_of_ble_eq_true rfl)) dL_law_4 ⟨(Nat.le_of_ble_eq_true rfl), (Nat.le_of_ble_eq_true rfl)⟩) hS (fun q _ h => hFc q h) hFc (fun u t H1 locs ht hvm hw hB hz1 hk1 hS => ?_)
  obtain ⟨ad, cA, had, hP1, hK1, hD1⟩ := hB
  rw [ht] at hP1
  have hKT := va_K.moved hvm.symm hK1
  have hD8 : va_D A (wC ad cA iniC) := hD1.weaken (fun _ _ _ h => hFc _ h)
  clear hP hD hFc hk1 hz1 hD1
  subst had
  have hP := hP1
  have hD := hD8
  refine W.widen (k := 32) (n := 4215) (Nat.le_of_ble_eq_true rfl) (Nat.le_of_ble_eq_true rfl) ?_
  refine lv_astore_n (lv' := [(1, .ref (ad 0)), (0, .ref b)]) hx hb dL_law_7 rfl hl (by decide) rfl (fun ls hl => ?_)
  refine va_new (ci := 5) (fs := [.int 0, .int 0, .int 0, .null, .null, .null, .null, .null, .null, .null, .null, .int 0, .int 0, .null, .null, .null, .null, .int 0, .null, .null, .null, .null, .null, .null, .null, .int 0, .null, .null, .null, .null]) (C := RX5) (T := TX5) (N := 30) hx hb hts0 in_wsX50 tyX5 tyX5_ok hown hM1 hM2 hM3 hK hP hD hS hA rfl (by decide) (Nat.le_of_ble_eq_true rfl) (Nat.le_of_ble_eq_true rfl) dL_law_8 (fun q2 H hP hD hS => ?_)
  have hP5 := hP.swp
  have hD5 := hD.swp
  refine W.widen (k := 33) (n := 4245) (Nat.le_of_ble_eq_true rfl) (Nat.le_of_ble_eq_true rfl) ?_
  refine lv_dup hx hb dL_law_11 rfl ?_
  have hFc := gFree hD5.lf hS hA
  refine va_callv (va_runI (As := []) (rest := [.ref q2]) hS9 (tyi_M l D q2 H.size) (cwI 0 hts gL_law_X5_init rfl rfl rfl hM3 hM4 hM5 rfl hdi_X5 ⟨by decide, by decide⟩) ⟨fun a U g mk h => ⟨h.1, h.2.1, h.2.2.1, va_K.moved (u := U) (U := U.calling g mk a) (Vm.Alike.refl U.vm) h.2.2.2.1, h.2.2.2.2.1, gNN.same (u := U) rfl h.2.2.2.2.2⟩, fun U hU hWm => ⟨rfl, by rw [hU], by rw [hU]; exact hP5.lf, va_K.moved hWm.alike hK, hD5.lf.weaken (fun _ _ _ _ => trivial), hNN.warm hWm⟩⟩ rfl rfl hl.1 rfl (lv_room (Nat.le_of_ble_eq_true rfl)) dL_law_12 ⟨(Nat.le_of_ble_eq_true rfl), (Nat.le_of_ble_eq_true rfl)⟩) hS (fun q _ h => hFc q h) hFc (fun u t H1 locs ht hvm hw hB hz1 hk1 hS => ?_)
  obtain ⟨am, cM, ham, hP1, hK1, hD1⟩ := hB
  rw [ht] at hP1
  have hKM := va_K.moved hvm.symm hK1
  obtain ⟨hP6, hD6⟩ := gl_join hP5 hD5 hk1 hFc hP1 hD1
  clear hP hD hP5 hD5 hFc hk1 hz1 hP1 hD1
  subst ham
  have hP := hP6
  have hD := hD6
  refine W.widen (k := 56) (n := 6493) (Nat.le_of_ble_eq_true rfl) (Nat.le_of_ble_eq_true rfl) ?_
  refine lv_astore_n (lv' := [(2, .ref (am 0)), (1, .ref (ad 0)), (0, .ref b)]) hx hb dL_law_15 rfl hl (by decide) rfl (fun ls hl => ?_)
  refine lv_iconst (v := 1) hx hb dL_law_16 (by decide) ?_
  refine va_newa (atype := .long) hx hb hL1 (ty := .long) rfl hKT hP hD hS hA (N' := 1) (a0 := (1, .inr (.inl (fun _ => 0)))) (fun _ => rfl) (by decide) (by decide) (Nat.le_of_ble_eq_true rfl) (Nat.le_of_ble_eq_true rfl) (Nat.le_of_ble_eq_true rfl) dL_law_17 (fun o cO H hKH hP hD hS => ?_)
  rw [List.append_assoc] at hP hD
  have hP : va_P D vwCl (wH ad cA o cO iniC (fun _ => 0) ++ wM am cM iniM) H := hP.swp
  have hD : va_D A (wH ad cA o cO iniC (fun _ => 0) ++ wM am cM iniM) := hD.swp
  refine lv_astore_n (lv' := [(3, .ref o), (2, .ref (am 0)), (1, .ref (ad 0)), (0, .ref b)]) hx hb dL_law_19 rfl hl (by decide) rfl (fun ls hl => ?_)
  refine lv_iconst (v := 0) hx hb dL_law_20 (by decide) ?_
  refine lv_istore (lv' := [(4, .int 0), (3, .ref o), (2, .ref (am 0)), (1, .ref (ad 0)), (0, .ref b)]) hx hb dL_law_21 hl (by decide) rfl (fun ls hl => ?_)
  subst hAe
  refine W.widen (k := 57 + 0) (n := 6494 + 6 * 0) (Nat.le_of_ble_eq_true rfl) (Nat.le_of_ble_eq_true rfl) ?_
  exact law_loop (D := D) (ad := ad) (am := am) (cA := cA) (cM := cM) (o := o) (cO := cO) ⟨C1, hl9, hOK, hNN, hNC, hCL, hKH, hKM, hL⟩ 600 0 (by omega) (by omega) _ _ _ _ _ _ inv_init hP hD hS (lv_sub hl [4, 3, 2, 1, 0] rfl)
