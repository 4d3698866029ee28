/-! ===== the law ===== -/
section LAW
variable {p : Program} {l : Launch} {e : Env} {s : State} {m : MethodId} {below : List Frame} {meth : Method} {c : Code} {b L : Nat} {xs : Nat → Int32} {D : va_G} {ad am : Nat → Nat} {cA cM : Nat → ClassId} {o : Nat} {cO : ClassId}
set_option maxHeartbeats 4000000 in
set_option maxRecDepth 100000 in
theorem law_loop (C : LawC p l s m meth c b L xs D cA cM cO) : ∀ (n k : Nat), 5 * k ≤ L → L < 5 * k + 5 * n → LoopAt p l e s m below meth c b D ad am cA cM o cO k := by
  have C0 := C
  obtain ⟨⟨hx, hb, hr, hml, hown0, hts0, hX, hbl, hlocks, hgv⟩, hl9, hOK, hNN, hNC, hCL, hK, hKM, hL⟩ := C
  have hA : ∀ q : Nat, s.heap.size ≤ q → (fun q : Nat => s.heap.size ≤ q) q := fun _ h => h
  have hbA : ¬ (fun q : Nat => s.heap.size ≤ q) b := Nat.not_le.mpr hbl
  intro n
  induction n with
  | zero => intro k h1 h2; exact absurd h2 (by omega)
  | succ n ih9 =>
    intro k h1 h2 σ μ g H locs ls hI hP hD hS hl
    refine lv_iload hx hb dL_law_23 (lv_at hl 4 rfl) ?_
    refine lv_aload_n hx hb dL_law_25 rfl (lv_at hl 0 rfl) ?_
    refine va_slen hx hb hX hbl hbA hS dL_law_26 ?_
    refine lv_iconst (v := 5) hx hb dL_law_27 (by decide) ?_
    refine lv_isub hx hb dL_law_28 ?_
    refine lv_icmp_gt (tgt := 2136) hx hb dL_law_29 (by decide) (fun c9 => ?_) (fun c9 => ?_)
    · refine lv_iconst (v := 1) hx hb dL_law_2136 (by decide) ?_
      refine va_forget (fun q hq => hS.2.2 q hq) ?_
      refine W.widen (k := 1114) (n := 14884) (by omega) (by omega) ?_
      exact lw_ret hx hb hr hlocks dL_law_2137
    · have hk : 5 * k + 5 ≤ L := Nat.not_lt.mp (fun h => c9 ((law_cmp hL (by omega)).mpr h))
      have ih := ih9 (k + 1) (by omega) (by omega)
      refine lv_aload_n hx hb dL_law_32 rfl (lv_at hl 0 rfl) ?_
      refine lv_iload hx hb dL_law_33 (lv_at hl 4 rfl) ?_
      refine va_sld hx hb hX hbl hbA hS (vp_in_nI (by omega) (by omega)) dL_law_35 ?_
      refine lv_bipush (v := 31) hx hb dL_law_36 (by decide) ?_
      refine lv_iand hx hb dL_law_38 ?_
      obtain ⟨j, hj, ej⟩ := pk_andE (xs (nI (5 * k)).toNatClampNeg) (m := 31) 5 (by decide)
      match j, hj with
      | 0, _ => exact lv_tableIn (tgt := 180) hx hb dL_law_39 (by rw [ej]; decide) (by rw [ej]; decide) (by rw [ej]; rfl) (by decide) (law_case_0 C0 hk ih hI hP hD hS hl)
      | 1, _ => exact lv_tableIn (tgt := 248) hx hb dL_law_39 (by rw [ej]; decide) (by rw [ej]; decide) (by rw [ej]; rfl) (by decide) (law_case_1 C0 hk ih hI hP hD hS hl)
      | 2, _ => exact lv_tableIn (tgt := 340) hx hb dL_law_39 (by rw [ej]; decide) (by rw [ej]; decide) (by rw [ej]; rfl) (by decide) (law_case_2 C0 hk ih hI hP hD hS hl)
      | 3, _ => exact lv_tableIn (tgt := 396) hx hb dL_law_39 (by rw [ej]; decide) (by rw [ej]; decide) (by rw [ej]; rfl) (by decide) (law_case_3 C0 hk ih hI hP hD hS hl)
      | 4, _ => exact lv_tableIn (tgt := 471) hx hb dL_law_39 (by rw [ej]; decide) (by rw [ej]; decide) (by rw [ej]; rfl) (by decide) (law_case_4 C0 hk ih hI hP hD hS hl)
      | 5, _ => exact lv_tableIn (tgt := 539) hx hb dL_law_39 (by rw [ej]; decide) (by rw [ej]; decide) (by rw [ej]; rfl) (by decide) (law_case_5 C0 hk ih hI hP hD hS hl)
      | 6, _ => exact lv_tableIn (tgt := 619) hx hb dL_law_39 (by rw [ej]; decide) (by rw [ej]; decide) (by rw [ej]; rfl) (by decide) (law_case_6 C0 hk ih hI hP hD hS hl)
      | 7, _ => exact lv_tableIn (tgt := 699) hx hb dL_law_39 (by rw [ej]; decide) (by rw [ej]; decide) (by rw [ej]; rfl) (by decide) (law_case_7 C0 hk ih hI hP hD hS hl)
      | 8, _ => exact lv_tableIn (tgt := 755) hx hb dL_law_39 (by rw [ej]; decide) (by rw [ej]; decide) (by rw [ej]; rfl) (by decide) (law_case_8 C0 hk ih hI hP hD hS hl)
      | 9, _ => exact lv_tableIn (tgt := 811) hx hb dL_law_39 (by rw [ej]; decide) (by rw [ej]; decide) (by rw [ej]; rfl) (by decide) (law_case_9 C0 hk ih hI hP hD hS hl)
      | 10, _ => exact lv_tableIn (tgt := 867) hx hb dL_law_39 (by rw [ej]; decide) (by rw [ej]; decide) (by rw [ej]; rfl) (by decide) (law_case_10 C0 hk ih hI hP hD hS hl)
      | 11, _ => exact lv_tableIn (tgt := 935) hx hb dL_law_39 (by rw [ej]; decide) (by rw [ej]; decide) (by rw [ej]; rfl) (by decide) (law_case_11 C0 hk ih hI hP hD hS hl)
      | 12, _ => exact lv_tableIn (tgt := 1003) hx hb dL_law_39 (by rw [ej]; decide) (by rw [ej]; decide) (by rw [ej]; rfl) (by decide) (law_case_12 C0 hk ih hI hP hD hS hl)
      | 13, _ => exact lv_tableIn (tgt := 1059) hx hb dL_law_39 (by rw [ej]; decide) (by rw [ej]; decide) (by rw [ej]; rfl) (by decide) (law_case_13 C0 hk ih hI hP hD hS hl)
      | 14, _ => exact lv_tableIn (tgt := 1127) hx hb dL_law_39 (by rw [ej]; decide) (by rw [ej]; decide) (by rw [ej]; rfl) (by decide) (law_case_14 C0 hk ih hI hP hD hS hl)
      | 15, _ => exact lv_tableIn (tgt := 1195) hx hb dL_law_39 (by rw [ej]; decide) (by rw [ej]; decide) (by rw [ej]; rfl) (by decide) (law_case_15 C0 hk ih hI hP hD hS hl)
      | 16, _ => exact lv_tableIn (tgt := 1251) hx hb dL_law_39 (by rw [ej]; decide) (by rw [ej]; decide) (by rw [ej]; rfl) (by decide) (law_case_16 C0 hk ih hI hP hD hS hl)
      | 17, _ => exact lv_tableIn (tgt := 1307) hx hb dL_law_39 (by rw [ej]; decide) (by rw [ej]; decide) (by rw [ej]; rfl) (by decide) (law_case_17 C0 hk ih hI hP hD hS hl)
      | 18, _ => exact lv_tableIn (tgt := 1363) hx hb dL_law_39 (by rw [ej]; decide) (by rw [ej]; decide) (by rw [ej]; rfl) (by decide) (law_case_18 C0 hk ih hI hP hD hS hl)
      | 19, _ => exact lv_tableIn (tgt := 1376) hx hb dL_law_39 (by rw [ej]; decide) (by rw [ej]; decide) (by rw [ej]; rfl) (by decide) (law_case_19 C0 hk ih hI hP hD hS hl)
      | 20, _ => exact lv_tableIn (tgt := 1456) hx hb dL_law_39 (by rw [ej]; decide) (by rw [ej]; decide) (by rw [ej]; rfl) (by decide) (law_case_20 C0 hk ih hI hP hD hS hl)
      | 21, _ => exact lv_tableIn (tgt := 1516) hx hb dL_law_39 (by rw [ej]; decide) (by rw [ej]; decide) (by rw [ej]; rfl) (by decide) (law_case_21 C0 hk ih hI hP hD hS hl)
      | 22, _ => exact lv_tableIn (tgt := 1596) hx hb dL_law_39 (by rw [ej]; decide) (by rw [ej]; decide) (by rw [ej]; rfl) (by decide) (law_case_22 C0 hk ih hI hP hD hS hl)
      | 23, _ => exact lv_tableIn (tgt := 1664) hx hb dL_law_39 (by rw [ej]; decide) (by rw [ej]; decide) (by rw [ej]; rfl) (by decide) (law_case_23 C0 hk ih hI hP hD hS hl)
      | 24, _ => exact lv_tableIn (tgt := 1720) hx hb dL_law_39 (by rw [ej]; decide) (by rw [ej]; decide) (by rw [ej]; rfl) (by decide) (law_case_24 C0 hk ih hI hP hD hS hl)
      | 25, _ => exact lv_tableIn (tgt := 1733) hx hb dL_law_39 (by rw [ej]; decide) (by rw [ej]; decide) (by rw [ej]; rfl) (by decide) (law_case_25 C0 hk ih hI hP hD hS hl)
      | 26, _ => exact lv_tableIn (tgt := 1789) hx hb dL_law_39 (by rw [ej]; decide) (by rw [ej]; decide) (by rw [ej]; rfl) (by decide) (law_case_26 C0 hk ih hI hP hD hS hl)
      | 27, _ => exact lv_tableIn (tgt := 1845) hx hb dL_law_39 (by rw [ej]; decide) (by rw [ej]; decide) (by rw [ej]; rfl) (by decide) (law_case_27 C0 hk ih hI hP hD hS hl)
      | 28, _ => exact lv_tableIn (tgt := 1913) hx hb dL_law_39 (by rw [ej]; decide) (by rw [ej]; decide) (by rw [ej]; rfl) (by decide) (law_case_28 C0 hk ih hI hP hD hS hl)
      | 29, _ => exact lv_tableIn (tgt := 1969) hx hb dL_law_39 (by rw [ej]; decide) (by rw [ej]; decide) (by rw [ej]; rfl) (by decide) (law_case_29 C0 hk ih hI hP hD hS hl)
      | 30, _ => exact lv_tableIn (tgt := 2049) hx hb dL_law_39 (by rw [ej]; decide) (by rw [ej]; decide) (by rw [ej]; rfl) (by decide) (law_case_30 C0 hk ih hI hP hD hS hl)
      | 31, _ => exact lv_tableIn (tgt := 2117) hx hb dL_law_39 (by rw [ej]; decide) (by rw [ej]; decide) (by rw [ej]; rfl) (by decide) (law_case_31 C0 hk ih hI hP hD hS hl)
      | n + 32, h => exact absurd h (by omega)
end LAW
