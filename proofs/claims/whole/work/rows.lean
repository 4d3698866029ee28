section
-- ===== PART A: goes FIRST, ahead of the names: the tables' words, and 'selects' of the private methods out of them =====
/-- a private method of a class that the tables say can be made, by its rows of tables_1 -/
def lw_okq (q : MethodName × Nat) : Prop := (q.1.cls ≠ "java/lang/invoke/MethodHandle" ∧ q.1.cls ≠ "java/lang/invoke/VarHandle") ∧ Cond.instantiable q.1.cls q.2 ∈ tables_1 ∧ Cond.privateMethod q.1 ∈ tables_1 ∧ Cond.instanceMethod q.1 ∈ tables_1
theorem lw_p0 : lw_okq (⟨"java/lang/Throwable", "fillInStackTrace", "(I)Ljava/lang/Throwable;"⟩, 6) := ⟨⟨by decide +kernel, by decide +kernel⟩, List.mem_of_getElem? (i := 239) (by decide +kernel), List.mem_of_getElem? (i := 237) (by decide +kernel), List.mem_of_getElem? (i := 238) (by decide +kernel)⟩
theorem lw_p1 : lw_okq (⟨"TrunkYards", "moveLast", "(III)V"⟩, 12) := ⟨⟨by decide +kernel, by decide +kernel⟩, List.mem_of_getElem? (i := 15) (by decide +kernel), List.mem_of_getElem? (i := 317) (by decide +kernel), List.mem_of_getElem? (i := 318) (by decide +kernel)⟩
theorem lw_p2 : lw_okq (⟨"TrunkYards", "requireWagon", "(I)V"⟩, 12) := ⟨⟨by decide +kernel, by decide +kernel⟩, List.mem_of_getElem? (i := 15) (by decide +kernel), List.mem_of_getElem? (i := 412) (by decide +kernel), List.mem_of_getElem? (i := 413) (by decide +kernel)⟩
theorem lw_p3 : lw_okq (⟨"TrunkYards$Switchboard", "connect", "(IIII)I"⟩, 9) := ⟨⟨by decide +kernel, by decide +kernel⟩, List.mem_of_getElem? (i := 93) (by decide +kernel), List.mem_of_getElem? (i := 468) (by decide +kernel), List.mem_of_getElem? (i := 469) (by decide +kernel)⟩
theorem lw_p4 : lw_okq (⟨"TrunkYards$Switchboard", "occupy", "(II)V"⟩, 9) := ⟨⟨by decide +kernel, by decide +kernel⟩, List.mem_of_getElem? (i := 93) (by decide +kernel), List.mem_of_getElem? (i := 472) (by decide +kernel), List.mem_of_getElem? (i := 473) (by decide +kernel)⟩
theorem lw_p5 : lw_okq (⟨"TrunkYards$Switchboard", "freeTrunk", "(II)I"⟩, 9) := ⟨⟨by decide +kernel, by decide +kernel⟩, List.mem_of_getElem? (i := 93) (by decide +kernel), List.mem_of_getElem? (i := 476) (by decide +kernel), List.mem_of_getElem? (i := 477) (by decide +kernel)⟩
theorem lw_p6 : lw_okq (⟨"TrunkYards", "requireCall", "(I)V"⟩, 12) := ⟨⟨by decide +kernel, by decide +kernel⟩, List.mem_of_getElem? (i := 15) (by decide +kernel), List.mem_of_getElem? (i := 490) (by decide +kernel), List.mem_of_getElem? (i := 491) (by decide +kernel)⟩
theorem lw_p7 : lw_okq (⟨"TrunkYards", "requireOngoing", "(I)V"⟩, 12) := ⟨⟨by decide +kernel, by decide +kernel⟩, List.mem_of_getElem? (i := 15) (by decide +kernel), List.mem_of_getElem? (i := 500) (by decide +kernel), List.mem_of_getElem? (i := 501) (by decide +kernel)⟩
theorem lw_p8 : lw_okq (⟨"TrunkYards", "findWagon", "(II)I"⟩, 12) := ⟨⟨by decide +kernel, by decide +kernel⟩, List.mem_of_getElem? (i := 15) (by decide +kernel), List.mem_of_getElem? (i := 526) (by decide +kernel), List.mem_of_getElem? (i := 527) (by decide +kernel)⟩
theorem lw_p9 : lw_okq (⟨"TrunkYards", "fits", "(II)Z"⟩, 12) := ⟨⟨by decide +kernel, by decide +kernel⟩, List.mem_of_getElem? (i := 15) (by decide +kernel), List.mem_of_getElem? (i := 530) (by decide +kernel), List.mem_of_getElem? (i := 531) (by decide +kernel)⟩
theorem lw_p10 : lw_okq (⟨"TrunkYards", "requireBooking", "(I)V"⟩, 12) := ⟨⟨by decide +kernel, by decide +kernel⟩, List.mem_of_getElem? (i := 15) (by decide +kernel), List.mem_of_getElem? (i := 569) (by decide +kernel), List.mem_of_getElem? (i := 570) (by decide +kernel)⟩
theorem lw_p11 : lw_okq (⟨"TrunkYards", "isWithin", "(III)Z"⟩, 12) := ⟨⟨by decide +kernel, by decide +kernel⟩, List.mem_of_getElem? (i := 15) (by decide +kernel), List.mem_of_getElem? (i := 574) (by decide +kernel), List.mem_of_getElem? (i := 575) (by decide +kernel)⟩
theorem lw_p12 : lw_okq (⟨"TrunkYards", "cutOff", "(I)V"⟩, 12) := ⟨⟨by decide +kernel, by decide +kernel⟩, List.mem_of_getElem? (i := 15) (by decide +kernel), List.mem_of_getElem? (i := 660) (by decide +kernel), List.mem_of_getElem? (i := 661) (by decide +kernel)⟩
theorem lw_p13 : lw_okq (⟨"TrunkYards", "canDepart", "(I)Z"⟩, 12) := ⟨⟨by decide +kernel, by decide +kernel⟩, List.mem_of_getElem? (i := 15) (by decide +kernel), List.mem_of_getElem? (i := 758) (by decide +kernel), List.mem_of_getElem? (i := 759) (by decide +kernel)⟩
theorem lw_p14 : lw_okq (⟨"TrunkYards", "standsWhole", "(II)Z"⟩, 12) := ⟨⟨by decide +kernel, by decide +kernel⟩, List.mem_of_getElem? (i := 15) (by decide +kernel), List.mem_of_getElem? (i := 762) (by decide +kernel), List.mem_of_getElem? (i := 763) (by decide +kernel)⟩
theorem lw_p15 : lw_okq (⟨"TrunkYards", "load", "(I)V"⟩, 12) := ⟨⟨by decide +kernel, by decide +kernel⟩, List.mem_of_getElem? (i := 15) (by decide +kernel), List.mem_of_getElem? (i := 767) (by decide +kernel), List.mem_of_getElem? (i := 768) (by decide +kernel)⟩
def lw_privs_1 : List (MethodName × Nat) := [(⟨"java/lang/Throwable", "fillInStackTrace", "(I)Ljava/lang/Throwable;"⟩, 6), (⟨"TrunkYards", "moveLast", "(III)V"⟩, 12), (⟨"TrunkYards", "requireWagon", "(I)V"⟩, 12), (⟨"TrunkYards$Switchboard", "connect", "(IIII)I"⟩, 9), (⟨"TrunkYards$Switchboard", "occupy", "(II)V"⟩, 9), (⟨"TrunkYards$Switchboard", "freeTrunk", "(II)I"⟩, 9), (⟨"TrunkYards", "requireCall", "(I)V"⟩, 12), (⟨"TrunkYards", "requireOngoing", "(I)V"⟩, 12), (⟨"TrunkYards", "findWagon", "(II)I"⟩, 12), (⟨"TrunkYards", "fits", "(II)Z"⟩, 12), (⟨"TrunkYards", "requireBooking", "(I)V"⟩, 12), (⟨"TrunkYards", "isWithin", "(III)Z"⟩, 12), (⟨"TrunkYards", "cutOff", "(I)V"⟩, 12), (⟨"TrunkYards", "canDepart", "(I)Z"⟩, 12), (⟨"TrunkYards", "standsWhole", "(II)Z"⟩, 12), (⟨"TrunkYards", "load", "(I)V"⟩, 12)]
theorem lw_r1 : ∀ q ∈ lw_privs_1, lw_okq q := List.forall_mem_cons.mpr ⟨lw_p0, List.forall_mem_cons.mpr ⟨lw_p1, List.forall_mem_cons.mpr ⟨lw_p2, List.forall_mem_cons.mpr ⟨lw_p3, List.forall_mem_cons.mpr ⟨lw_p4, List.forall_mem_cons.mpr ⟨lw_p5, List.forall_mem_cons.mpr ⟨lw_p6, List.forall_mem_cons.mpr ⟨lw_p7, List.forall_mem_cons.mpr ⟨lw_p8, List.forall_mem_cons.mpr ⟨lw_p9, List.forall_mem_cons.mpr ⟨lw_p10, List.forall_mem_cons.mpr ⟨lw_p11, List.forall_mem_cons.mpr ⟨lw_p12, List.forall_mem_cons.mpr ⟨lw_p13, List.forall_mem_cons.mpr ⟨lw_p14, List.forall_mem_cons.mpr ⟨lw_p15, fun _ h => absurd h List.not_mem_nil⟩⟩⟩⟩⟩⟩⟩⟩⟩⟩⟩⟩⟩⟩⟩⟩
theorem lw_p16 : lw_okq (⟨"TrunkYards", "unload", "(I)V"⟩, 12) := ⟨⟨by decide +kernel, by decide +kernel⟩, List.mem_of_getElem? (i := 15) (by decide +kernel), List.mem_of_getElem? (i := 781) (by decide +kernel), List.mem_of_getElem? (i := 782) (by decide +kernel)⟩
theorem lw_p17 : lw_okq (⟨"TrunkYardsModel", "puts", "(III)V"⟩, 30) := ⟨⟨by decide +kernel, by decide +kernel⟩, List.mem_of_getElem? (i := 785) (by decide +kernel), List.mem_of_getElem? (i := 899) (by decide +kernel), List.mem_of_getElem? (i := 900) (by decide +kernel)⟩
theorem lw_p18 : lw_okq (⟨"TrunkYardsModel", "wagonAt", "(III)I"⟩, 30) := ⟨⟨by decide +kernel, by decide +kernel⟩, List.mem_of_getElem? (i := 785) (by decide +kernel), List.mem_of_getElem? (i := 926) (by decide +kernel), List.mem_of_getElem? (i := 927) (by decide +kernel)⟩
theorem lw_p19 : lw_okq (⟨"TrunkYardsModel", "asksWagon", "(I)Z"⟩, 30) := ⟨⟨by decide +kernel, by decide +kernel⟩, List.mem_of_getElem? (i := 785) (by decide +kernel), List.mem_of_getElem? (i := 938) (by decide +kernel), List.mem_of_getElem? (i := 939) (by decide +kernel)⟩
theorem lw_p20 : lw_okq (⟨"TrunkYardsModel", "isWagon", "(I)Z"⟩, 30) := ⟨⟨by decide +kernel, by decide +kernel⟩, List.mem_of_getElem? (i := 785) (by decide +kernel), List.mem_of_getElem? (i := 942) (by decide +kernel), List.mem_of_getElem? (i := 943) (by decide +kernel)⟩
theorem lw_p21 : lw_okq (⟨"TrunkYardsModel", "isPromised", "(I)Z"⟩, 30) := ⟨⟨by decide +kernel, by decide +kernel⟩, List.mem_of_getElem? (i := 785) (by decide +kernel), List.mem_of_getElem? (i := 954) (by decide +kernel), List.mem_of_getElem? (i := 955) (by decide +kernel)⟩
theorem lw_p22 : lw_okq (⟨"TrunkYardsModel", "callNow", "(I)I"⟩, 30) := ⟨⟨by decide +kernel, by decide +kernel⟩, List.mem_of_getElem? (i := 785) (by decide +kernel), List.mem_of_getElem? (i := 962) (by decide +kernel), List.mem_of_getElem? (i := 963) (by decide +kernel)⟩
theorem lw_p23 : lw_okq (⟨"TrunkYardsModel", "callsTo", "(I)I"⟩, 30) := ⟨⟨by decide +kernel, by decide +kernel⟩, List.mem_of_getElem? (i := 785) (by decide +kernel), List.mem_of_getElem? (i := 966) (by decide +kernel), List.mem_of_getElem? (i := 967) (by decide +kernel)⟩
theorem lw_p24 : lw_okq (⟨"TrunkYardsModel", "takesWay", "(II)Z"⟩, 30) := ⟨⟨by decide +kernel, by decide +kernel⟩, List.mem_of_getElem? (i := 785) (by decide +kernel), List.mem_of_getElem? (i := 970) (by decide +kernel), List.mem_of_getElem? (i := 971) (by decide +kernel)⟩
theorem lw_p25 : lw_okq (⟨"TrunkYardsModel", "freeBetween", "(II)I"⟩, 30) := ⟨⟨by decide +kernel, by decide +kernel⟩, List.mem_of_getElem? (i := 785) (by decide +kernel), List.mem_of_getElem? (i := 974) (by decide +kernel), List.mem_of_getElem? (i := 975) (by decide +kernel)⟩
theorem lw_p26 : lw_okq (⟨"TrunkYardsModel", "isCall", "(I)Z"⟩, 30) := ⟨⟨by decide +kernel, by decide +kernel⟩, List.mem_of_getElem? (i := 785) (by decide +kernel), List.mem_of_getElem? (i := 985) (by decide +kernel), List.mem_of_getElem? (i := 986) (by decide +kernel)⟩
theorem lw_p27 : lw_okq (⟨"TrunkYardsModel", "finds", "(II)I"⟩, 30) := ⟨⟨by decide +kernel, by decide +kernel⟩, List.mem_of_getElem? (i := 785) (by decide +kernel), List.mem_of_getElem? (i := 989) (by decide +kernel), List.mem_of_getElem? (i := 990) (by decide +kernel)⟩
theorem lw_p28 : lw_okq (⟨"TrunkYardsModel", "fits", "(II)Z"⟩, 30) := ⟨⟨by decide +kernel, by decide +kernel⟩, List.mem_of_getElem? (i := 785) (by decide +kernel), List.mem_of_getElem? (i := 993) (by decide +kernel), List.mem_of_getElem? (i := 994) (by decide +kernel)⟩
theorem lw_p29 : lw_okq (⟨"TrunkYardsModel", "adds", "(II)V"⟩, 30) := ⟨⟨by decide +kernel, by decide +kernel⟩, List.mem_of_getElem? (i := 785) (by decide +kernel), List.mem_of_getElem? (i := 997) (by decide +kernel), List.mem_of_getElem? (i := 998) (by decide +kernel)⟩
theorem lw_p30 : lw_okq (⟨"TrunkYardsModel", "isBooking", "(I)Z"⟩, 30) := ⟨⟨by decide +kernel, by decide +kernel⟩, List.mem_of_getElem? (i := 785) (by decide +kernel), List.mem_of_getElem? (i := 1009) (by decide +kernel), List.mem_of_getElem? (i := 1010) (by decide +kernel)⟩
theorem lw_p31 : lw_okq (⟨"TrunkYardsModel", "isOf", "(II)Z"⟩, 30) := ⟨⟨by decide +kernel, by decide +kernel⟩, List.mem_of_getElem? (i := 785) (by decide +kernel), List.mem_of_getElem? (i := 1013) (by decide +kernel), List.mem_of_getElem? (i := 1014) (by decide +kernel)⟩
def lw_privs_2 : List (MethodName × Nat) := [(⟨"TrunkYards", "unload", "(I)V"⟩, 12), (⟨"TrunkYardsModel", "puts", "(III)V"⟩, 30), (⟨"TrunkYardsModel", "wagonAt", "(III)I"⟩, 30), (⟨"TrunkYardsModel", "asksWagon", "(I)Z"⟩, 30), (⟨"TrunkYardsModel", "isWagon", "(I)Z"⟩, 30), (⟨"TrunkYardsModel", "isPromised", "(I)Z"⟩, 30), (⟨"TrunkYardsModel", "callNow", "(I)I"⟩, 30), (⟨"TrunkYardsModel", "callsTo", "(I)I"⟩, 30), (⟨"TrunkYardsModel", "takesWay", "(II)Z"⟩, 30), (⟨"TrunkYardsModel", "freeBetween", "(II)I"⟩, 30), (⟨"TrunkYardsModel", "isCall", "(I)Z"⟩, 30), (⟨"TrunkYardsModel", "finds", "(II)I"⟩, 30), (⟨"TrunkYardsModel", "fits", "(II)Z"⟩, 30), (⟨"TrunkYardsModel", "adds", "(II)V"⟩, 30), (⟨"TrunkYardsModel", "isBooking", "(I)Z"⟩, 30), (⟨"TrunkYardsModel", "isOf", "(II)Z"⟩, 30)]
theorem lw_r2 : ∀ q ∈ lw_privs_2, lw_okq q := List.forall_mem_cons.mpr ⟨lw_p16, List.forall_mem_cons.mpr ⟨lw_p17, List.forall_mem_cons.mpr ⟨lw_p18, List.forall_mem_cons.mpr ⟨lw_p19, List.forall_mem_cons.mpr ⟨lw_p20, List.forall_mem_cons.mpr ⟨lw_p21, List.forall_mem_cons.mpr ⟨lw_p22, List.forall_mem_cons.mpr ⟨lw_p23, List.forall_mem_cons.mpr ⟨lw_p24, List.forall_mem_cons.mpr ⟨lw_p25, List.forall_mem_cons.mpr ⟨lw_p26, List.forall_mem_cons.mpr ⟨lw_p27, List.forall_mem_cons.mpr ⟨lw_p28, List.forall_mem_cons.mpr ⟨lw_p29, List.forall_mem_cons.mpr ⟨lw_p30, List.forall_mem_cons.mpr ⟨lw_p31, fun _ h => absurd h List.not_mem_nil⟩⟩⟩⟩⟩⟩⟩⟩⟩⟩⟩⟩⟩⟩⟩⟩
theorem lw_p32 : lw_okq (⟨"TrunkYardsModel", "ends", "(I)V"⟩, 30) := ⟨⟨by decide +kernel, by decide +kernel⟩, List.mem_of_getElem? (i := 785) (by decide +kernel), List.mem_of_getElem? (i := 1025) (by decide +kernel), List.mem_of_getElem? (i := 1026) (by decide +kernel)⟩
theorem lw_p33 : lw_okq (⟨"TrunkYardsModel", "asksBooking", "(I)Z"⟩, 30) := ⟨⟨by decide +kernel, by decide +kernel⟩, List.mem_of_getElem? (i := 785) (by decide +kernel), List.mem_of_getElem? (i := 1072) (by decide +kernel), List.mem_of_getElem? (i := 1073) (by decide +kernel)⟩
theorem lw_p34 : lw_okq (⟨"TrunkYardsModel", "canDepart", "(II)Z"⟩, 30) := ⟨⟨by decide +kernel, by decide +kernel⟩, List.mem_of_getElem? (i := 785) (by decide +kernel), List.mem_of_getElem? (i := 1092) (by decide +kernel), List.mem_of_getElem? (i := 1093) (by decide +kernel)⟩
theorem lw_p35 : lw_okq (⟨"TrunkYardsModel", "areOn", "(II)Z"⟩, 30) := ⟨⟨by decide +kernel, by decide +kernel⟩, List.mem_of_getElem? (i := 785) (by decide +kernel), List.mem_of_getElem? (i := 1096) (by decide +kernel), List.mem_of_getElem? (i := 1097) (by decide +kernel)⟩
def lw_privs_3 : List (MethodName × Nat) := [(⟨"TrunkYardsModel", "ends", "(I)V"⟩, 30), (⟨"TrunkYardsModel", "asksBooking", "(I)Z"⟩, 30), (⟨"TrunkYardsModel", "canDepart", "(II)Z"⟩, 30), (⟨"TrunkYardsModel", "areOn", "(II)Z"⟩, 30)]
theorem lw_r3 : ∀ q ∈ lw_privs_3, lw_okq q := List.forall_mem_cons.mpr ⟨lw_p32, List.forall_mem_cons.mpr ⟨lw_p33, List.forall_mem_cons.mpr ⟨lw_p34, List.forall_mem_cons.mpr ⟨lw_p35, fun _ h => absurd h List.not_mem_nil⟩⟩⟩⟩
def lw_privs : List (MethodName × Nat) := lw_privs_1 ++ (lw_privs_2 ++ (lw_privs_3))
def lw_tbl : List Cond := k2_sels lw_privs ++ tables_1
theorem lw_privs_ok : ∀ q ∈ lw_privs, lw_okq q := by
  show ∀ q ∈ lw_privs_1 ++ (lw_privs_2 ++ (lw_privs_3)), lw_okq q
  exact List.forall_mem_append.mpr ⟨lw_r1, List.forall_mem_append.mpr ⟨lw_r2, lw_r3⟩⟩
end
section
/-! ===== BEGIN words of one list among another's, by their places ===== -/
theorem goodIn_r {big : List Cond} (ws : List Cond) (ps : List Nat) (hp : ws = ps.filterMap (fun i => big[i]?)) (h : ws.all goodWord = true) : GoodIn big ws := by
  intro w hw
  have h1 := List.all_eq_true.mp h w hw
  rw [hp] at hw
  obtain ⟨i, -, hi⟩ := List.mem_filterMap.mp hw
  have hm : w ∈ big := by first | exact List.mem_of_getElem? hi | exact List.getElem?_mem hi
  exact ⟨hm, good_of_word h1⟩
theorem goodIn_app {big a b : List Cond} (ha : GoodIn big a) (hb : GoodIn big b) : GoodIn big (a ++ b) := fun w h => (List.mem_append.mp h).elim (ha w) (hb w)
theorem goodIn_ca {big a b : List Cond} {c : Cond} (ha : GoodIn big (c :: a)) (hb : GoodIn big b) : GoodIn big (c :: (a ++ b)) := fun w h => (List.mem_cons.mp h).elim (fun e => ha w (List.mem_cons.mpr (Or.inl e))) (fun h => (List.mem_append.mp h).elim (fun h => ha w (List.mem_cons.mpr (Or.inr h))) (hb w))
theorem goodIn_sub {big ws : List Cond} (hm : ∀ w ∈ ws, w ∈ big) (h : ws.all goodWord = true) : GoodIn big ws := fun w hw => ⟨hm w hw, good_of_word (List.all_eq_true.mp h w hw)⟩
/-! ===== END ===== -/

/-! ===== BEGIN exceptions that leave a method, and their catching by the caller (launches without stack traces) ===== -/
section VXA
/-! The laws vx_back, vx_callV, vx_callS, vx_callSW, vx_throw0, vx_throwS follow proofs of the library, with one case more: JvmDerived/Free/Laws.lean (Back.of_free), Shelf42/LK1.lean (callV, callS), Shelf/KitTraced.lean (throwNew0V, throwNewS). -/
/-- where a method has thrown q: the class by its name, the cell, what was written, the world -/
def vx_T (XC : String → State → State → Prop) (st : State) (q : Addr) (t : State) (mc ms : Nat) (free : Addr → Prop) : Prop :=
  ∃ (E : String) (ce : Cell) (L : List Loc), XC E st t ∧ t.heap[q]? = some ce ∧ ce.vm = .none ∧ st.vm.findClass E = some ce.cls ∧ st.WarmedH t.vm ∧ st.sameButNew ({ t with vm := st.vm } : State) L mc ms ∧ ∀ z ∈ L, free z.base
def vx_Q (Qc : Array Value → State → Outcome → State → Prop) (XC : String → State → State → Prop) (mc ms : Nat) (free : Addr → Prop) : Array Value → State → Outcome → State → Prop := fun a st o t =>
  (Qc a st o t ∧ ∃ L, FrameEnd st o t L mc ms ∧ ∀ q ∈ L, free q.base) ∨ ∃ q, o = .threw q ∧ vx_T XC st q t mc ms free
/-- a callee that returns or throws -/
def vx_Met (l : Launch) (y : MethodName) (ws : List Cond) (rm : Room) (Pc : Array Value → State → Prop) (Qc : Array Value → State → Outcome → State → Prop) (XC : String → State → State → Prop) (mc ms : Nat) (free : Addr → Prop) : Prop :=
  MetFree l y (headSpec ws rm) Pc (fun _ _ _ _ _ => True) (vx_Q Qc XC mc ms free)
def vx_Post (XC : String → State → State → Prop) (mc ms : Nat) (free : Addr → Prop) : Pt → Array Value → Addr → Pt → Prop := fun A a q B =>
  ∃ (g : JFrame) (mk : MethodId) (t : State) (L : List Loc) (E : String) (ce : Cell), B.U.heap = t.heap ∧ B.U.vm = t.vm ∧ XC E (A.U.calling g mk a) t ∧ t.heap[q]? = some ce ∧ ce.vm = .none ∧ A.U.vm.findClass E = some ce.cls ∧ B.locs = A.locs ++ L ∧ (∀ z ∈ L, free z.base) ∧ B.cells = A.cells + mc ∧ B.slots = A.slots + ms
def vx_Back (l : Launch) (R : Room) (p : Program) (e : Env) (below : List Frame) (s : State) (sargs : Array Value) (y : MethodName) (len W9 : Nat)
    (Pre : Pt → Array Value → Prop) (Post : Pt → Array Value → Option Value → Pt → Prop) (PostX : Pt → Array Value → Addr → Pt → Prop) : Prop :=
  ∀ (m : MethodId) (meth : Method) (c : Code) (A : Pt) (g : JFrame) (ig : Instr) (mk : MethodId) (a : Array Value),
    Stand p l e R s m sargs below meth c A.U A.locs A.cells A.slots → g.method = m → g.locals.size = c.maxLocals → decode c.code g.pc = .ok (ig, len) →
    2 * g.monitorRoom + (g.stack.map fun v => v.category).sum ≤ W9 → A.U.methodNamed? y = some mk → Pre A a →
    (∃ (v : Option Value) (B : Pt), Stand p l e R s m sargs below meth c B.U B.locs B.cells B.slots ∧ Post A a v B ∧
      Steps p.tables e below (doInvoke e (A.U.setTop g) [] mk a).1 (B.U.setTop { g with pc := g.pc + len, stack := v.toList ++ g.stack })) ∨
    (∃ (q : Addr) (B : Pt), Stand p l e R s m sargs below meth c B.U B.locs B.cells B.slots ∧ PostX A a q B ∧
      Steps p.tables e below (doInvoke e (A.U.setTop g) [] mk a).1 ((B.U.setTop g).pushFrame (.throwing q)))
section Payer
variable {l : Launch} {R : Room} {p : Program} {e : Env} {below : List Frame} {s : State} {sargs : Array Value} {y : MethodName} {len W9 : Nat}
theorem vx_back {ws : List Cond} {rm : Room} {Pc : Array Value → State → Prop} {Qc : Array Value → State → Outcome → State → Prop} {XC : String → State → State → Prop} {mc ms : Nat} {free : Addr → Prop} {bytes : ByteArray} {maxL : Nat} {ret : Option FieldType}
    (hM : vx_Met l y ws rm Pc Qc XC mc ms free) (hblind : FrameBlind Pc) (hrc : rm.cells = mc) (hrs : rm.slots = ms)
    (hframes : rm.frames + 1 ≤ R.frames) (hlocals : W9 + (maxL + 11) + rm.locals ≤ R.locals)
    (hws : ∀ w ∈ ws, ∀ a' U, s.WarmedH U.vm → w.before a' U = true) (hcode : Cond.code y bytes maxL ret ∈ ws) (hinit : ∀ a' U, s.WarmedH U.vm → (Cond.initialized y.cls).before a' U = true) :
    vx_Back l R p e below s sargs y len W9 (PreOf R mc ms Pc) (PostOf Qc mc ms free) (vx_Post XC mc ms free) := by
  intro m meth c A g ig mk a X hg hsize hdg hW hn hp
  have h1 : (headSpec ws rm).pre.before a A.U = true := atoms_intro fun w hw => hws w hw _ _ X.warmed
  have h2 : (Cond.code y bytes maxL ret).before a A.U = true := hws _ hcode _ _ X.warmed
  have h3 : (Cond.initialized y.cls).before a A.U = true := hinit _ _ X.warmed
  have h4 : A.cells + (headSpec ws rm).room.cells ≤ R.cells := by rw [show (headSpec ws rm).room.cells = mc from hrc]; exact hp.1
  have h5 : A.slots + (headSpec ws rm).room.slots ≤ R.slots := by rw [show (headSpec ws rm).room.slots = ms from hrs]; exact hp.2.1
  have hPc : Pc a (A.U.calling g mk a) := hblind _ _ _ _ hp.2.2
  obtain ⟨U, Ls, c0, s0⟩ := A
  dsimp only [Pt.U, Pt.locs, Pt.cells, Pt.slots] at h1 h2 h3 h4 h5 X hn hPc ⊢
  obtain ⟨methY, cY, hmY, hcY, -, hlY, -, -, -, -⟩ := Cond.code_spec hn h2
  obtain ⟨kY, hkY, -⟩ := className_of_methodNamed hn
  have hinitY : kY.init = .initialized := Cond.initialized_spec (findClass_of_methodNamed hn) hkY h3
  have h : At U g.method c below := by rw [hg]; exact X.here
  have hlocals9 : W9 + (maxL + 11) + (headSpec ws rm).room.locals ≤ R.locals := hlocals
  have happ : (headSpec ws rm).appliesLoose y e.platform (U.calling g mk a) = true :=
    Spec.appliesLoose_calling (g := g) h hdg hn hkY hinitY
      (X.room_calling (g := g) (R' := (headSpec ws rm).room) hsize hmY hcY hframes (by rw [hlY]; omega) h4 h5) h1
  obtain ⟨mid, hmid⟩ := h.above
  have hfr : (U.setTop g).frames = (.java g :: mid) ++ below := by rw [State.frames_setTop' g h.top, hmid]; rfl
  obtain ⟨o, s₂, hsteps, -, hend, hq⟩ := Steps.callFree hM p X.admits X.cas X.clock (acts := []) hfr happ hPc trivial
  have hq' : vx_Q Qc XC mc ms free a (U.calling g mk a) o s₂ := hq
  rw [State.frames_setTop' g h.top] at hend
  obtain ⟨g₀, hg0⟩ := Option.isSome_iff_exists.mp h.top
  obtain ⟨r, hr⟩ := State.topJava?_eq_some.mp hg0
  have hr' : (({ U with heap := s₂.heap, slotsUsed := s₂.slotsUsed } : State).setVm s₂.vm).frames = .java g₀ :: r := hr
  rcases hq' with ⟨hqc, L, hfe, hL⟩ | ⟨q, rfl, E, ce, L, hx, hce, hcv, hcl, hW₂, hsm, hL⟩
  · obtain ⟨⟨v, rfl⟩, hW₂, e2, q2, q3, q4, q5, q6⟩ := id hfe
    have e3 : s₂ = ({ (U.calling g mk a).setFrames s₂.frames with heap := s₂.heap, slotsUsed := s₂.slotsUsed } : State).setVm s₂.vm := by
      have : s₂ = ({ s₂ with vm := (U.calling g mk a).vm } : State).setVm s₂.vm := rfl
      rw [e2] at this
      exact this
    obtain ⟨c₂, i₂, len₂, hc₂, hd₂, hf₂⟩ := hend
    have hW' : U.WarmedH s₂.vm := hW₂
    have hcc : c₂ = c := by
      have h1 : s₂.code? g.method = U.code? g.method := by
        rw [State.code?_eq, State.code?_eq, hW'.alike.method?]
      exact Option.some.inj (hc₂.symm.trans (h1.trans h.code))
    subst hcc
    have hlen : len₂ = len := by rw [hdg] at hd₂; cases hd₂; rfl
    subst hlen
    have hs₂ : s₂ = (({ U with heap := s₂.heap, slotsUsed := s₂.slotsUsed } : State).setVm s₂.vm).setTop { g with pc := g.pc + len₂, stack := v.toList ++ g.stack } := by
      refine e3.trans ?_
      rw [hf₂, State.calling_eq h.top, State.setFrames_setFrames, State.setTop_of_frames _ hr', hr]
      rfl
    have hsame : U.sameButNew ({ U with heap := s₂.heap, slotsUsed := s₂.slotsUsed } : State) L mc ms := by
      refine ⟨?_, q2, q3, q4, q5, q6⟩
      obtain ⟨t, ht, -⟩ := State.frames_cons hr
      show ({ U with heap := s₂.heap, slotsUsed := s₂.slotsUsed } : State) = { U.setFrames U.frames with heap := s₂.heap, slotsUsed := s₂.slotsUsed }
      rw [State.setFrames_self ht]
    subst hg
    refine Or.inl ⟨v, ⟨(({ U with heap := s₂.heap, slotsUsed := s₂.slotsUsed } : State).setVm s₂.vm), Ls ++ L, c0 + mc, s0 + ms⟩,
      ⟨X.admits, X.cas, X.clock, X.frames, X.room, X.hears, X.method, X.code, (X.here.setHeapUsed s₂.heap s₂.slotsUsed).setVm hW'.alike, X.tail, State.WarmedH.trans X.warmed hW', X.limits, X.bytes, X.same.trans (hsame.setVm s.vm)⟩,
      ⟨g, mk, s₂, L, rfl, rfl, hqc, rfl, hL, rfl, rfl⟩, ?_⟩
    show Steps p.tables e below _ ((({ U with heap := s₂.heap, slotsUsed := s₂.slotsUsed } : State).setVm s₂.vm).setTop { g with pc := g.pc + len₂, stack := v.toList ++ g.stack })
    rw [← hs₂]
    exact hsteps
  · obtain ⟨e2, q2, q3, q4, q5, q6⟩ := id hsm
    have e3 : s₂ = ({ (U.calling g mk a).setFrames s₂.frames with heap := s₂.heap, slotsUsed := s₂.slotsUsed } : State).setVm s₂.vm := by
      have : s₂ = ({ s₂ with vm := (U.calling g mk a).vm } : State).setVm s₂.vm := rfl
      rw [e2] at this
      exact this
    have hf₂ : s₂.frames = .throwing q :: .java g :: U.frames.tail := hend
    have hW' : U.WarmedH s₂.vm := hW₂
    have hs₂ : s₂ = ((({ U with heap := s₂.heap, slotsUsed := s₂.slotsUsed } : State).setVm s₂.vm).setTop g).pushFrame (.throwing q) := by
      refine e3.trans ?_
      rw [hf₂, State.calling_eq h.top, State.setFrames_setFrames, State.pushFrame, State.frames_setTop _ hr', State.setTop_of_frames _ hr', State.setFrames_setFrames, hr]
      rfl
    have hsame : U.sameButNew ({ U with heap := s₂.heap, slotsUsed := s₂.slotsUsed } : State) L mc ms := by
      refine ⟨?_, q2, q3, q4, q5, q6⟩
      obtain ⟨t, ht, -⟩ := State.frames_cons hr
      show ({ U with heap := s₂.heap, slotsUsed := s₂.slotsUsed } : State) = { U.setFrames U.frames with heap := s₂.heap, slotsUsed := s₂.slotsUsed }
      rw [State.setFrames_self ht]
    subst hg
    refine Or.inr ⟨q, ⟨(({ U with heap := s₂.heap, slotsUsed := s₂.slotsUsed } : State).setVm s₂.vm), Ls ++ L, c0 + mc, s0 + ms⟩,
      ⟨X.admits, X.cas, X.clock, X.frames, X.room, X.hears, X.method, X.code, (X.here.setHeapUsed s₂.heap s₂.slotsUsed).setVm hW'.alike, X.tail, State.WarmedH.trans X.warmed hW', X.limits, X.bytes, X.same.trans (hsame.setVm s.vm)⟩,
      ⟨g, mk, s₂, L, E, ce, rfl, rfl, hx, hce, hcv, hcl, rfl, hL, rfl, rfl⟩, ?_⟩
    show Steps p.tables e below _ (((({ U with heap := s₂.heap, slotsUsed := s₂.slotsUsed } : State).setVm s₂.vm).setTop g).pushFrame (.throwing q))
    rw [← hs₂]
    exact hsteps
end Payer
section Calls
variable {p : Program} {l : Launch} {e : Env} {R : Room} {s : State} {m : MethodId} {args : Array Value} {below : List Frame} {meth : Method} {c : Code} {T : State} {locs : List Loc} {cells slots : Nat}
theorem vx_callV (X : Stand p l e R s m args below meth c T locs cells slots) (hexec : p.tables.exec = Jvm.exec) {own C : String} {index : Nat} {y : MethodName} {bytes : ByteArray} {maxL : Nat} {ret : Option FieldType}
    (hown : s.vm.findClass own = some m.cls) (hlink : (Cond.methodLink own index y).before args s = true) (hinst : (Cond.instanceMethod y).before args s = true) (hsel : (Cond.selects C y y).before args s = true)
    (hcode : (Cond.code y bytes maxL ret).before args s = true) (hy : y.cls ≠ "java/lang/invoke/MethodHandle" ∧ y.cls ≠ "java/lang/invoke/VarHandle")
    {W9 : Nat} {Pre : Pt → Array Value → Prop} {Post : Pt → Array Value → Option Value → Pt → Prop} {PostX : Pt → Array Value → Addr → Pt → Prop} (hK : vx_Back l R p e below s args y 3 W9 Pre Post PostX)
    {b : Addr} {cellB : Cell} (hcell : T.heap[b]? = some cellB) (hobj : cellB.vm.isStatics = false) (hcls : s.vm.findClass C = some cellB.cls)
    {g : JFrame} (hg : g.method = m) (hsize : g.locals.size = c.maxLocals) {argsL rest : List Value} (hlen : ∀ sig, parseMethodDescriptor y.desc = some sig → argsL.length = sig.parameters.length)
    (hstack : g.stack = argsL.reverse ++ .ref b :: rest) (hW : 2 * g.monitorRoom + (rest.map fun v => v.category).sum ≤ W9) (hdg : decode c.code g.pc = .ok (.invokevirtual index, 3))
    (hpre : ∀ vm₁, s.WarmedH vm₁ → Pre ⟨T.setVm vm₁, locs, cells, slots⟩ (Value.ref b :: argsL).toArray) :
    (∃ (v : Option Value) (vm₁ : Vm) (B : Pt), s.WarmedH vm₁ ∧ Stand p l e R s m args below meth c B.U B.locs B.cells B.slots ∧ Post ⟨T.setVm vm₁, locs, cells, slots⟩ (Value.ref b :: argsL).toArray v B ∧
      ∀ target, Steps p.tables e below (B.U.setTop { g with pc := g.pc + 3, stack := v.toList ++ rest }) target → Steps p.tables e below (T.setTop g) target) ∨
    (∃ (q : Addr) (vm₁ : Vm) (B : Pt), s.WarmedH vm₁ ∧ Stand p l e R s m args below meth c B.U B.locs B.cells B.slots ∧ PostX ⟨T.setVm vm₁, locs, cells, slots⟩ (Value.ref b :: argsL).toArray q B ∧
      Steps p.tables e below (T.setTop g) ((B.U.setTop { g with stack := rest }).pushFrame (.throwing q))) := by
  obtain ⟨mk, methM, hnamed, hmethM, hstM, habM⟩ := Cond.instanceMethod_spec hinst
  obtain ⟨methM', cM, hmethM', -, -, -, -, -, -, hsigM⟩ := Cond.code_spec hnamed hcode
  cases hmethM.symm.trans hmethM'
  obtain ⟨c2, r2, m2, q1, q2, q3, q4, kP, hkP, hkPi⟩ := Cond.selects_spec hsel
  cases hcls.symm.trans q1
  cases (State.methodFound?_of_named hnamed hy).symm.trans q2
  cases hnamed.symm.trans q3
  have hselP : selectMethod e.platform s.vm cellB.cls mk = .method mk := by rw [Launch.admits_selectMethod X.admits]; exact q4
  obtain ⟨vm₁, X₁, hstep₁⟩ := X.invokevirtual hexec hown hlink hnamed hmethM hstM hkP hkPi hy (a := b) (cell := cellB) hcell
    (fun z h => by rw [h] at hobj; cases hobj) hselP hmethM habM hkP hkPi (g := g) hg (argsL := argsL) (rest := rest) (hlen _ hsigM) hstack hdg
  rcases hK m meth c ⟨T.setVm vm₁, locs, cells, slots⟩ { g with stack := rest } (.invokevirtual index) mk (Value.ref b :: argsL).toArray X₁ hg hsize hdg hW (X₁.named hnamed) (hpre vm₁ X₁.warmed) with ⟨v, B, X', hpost, hsteps⟩ | ⟨q, B, X', hpost, hsteps⟩
  · exact Or.inl ⟨v, vm₁, B, X₁.warmed, X', hpost, fun target h => hstep₁ _ fun acts => by rw [doInvoke_state]; exact hsteps.trans h⟩
  · exact Or.inr ⟨q, vm₁, B, X₁.warmed, X', hpost, hstep₁ _ fun acts => by rw [doInvoke_state]; exact hsteps⟩
theorem vx_callS (X : Stand p l e R s m args below meth c T locs cells slots) (hexec : p.tables.exec = Jvm.exec) {own : String} {index : Nat} {y : MethodName} {bytes : ByteArray} {maxL : Nat} {ret : Option FieldType}
    (hown : s.vm.findClass own = some m.cls) (hlink : (Cond.methodLink own index y).before args s = true) (hstat : (Cond.static y).before args s = true) (hinit : (Cond.initialized y.cls).before args s = true)
    (hcode : (Cond.code y bytes maxL ret).before args s = true) (hy : y.cls ≠ "java/lang/invoke/MethodHandle" ∧ y.cls ≠ "java/lang/invoke/VarHandle")
    {W9 : Nat} {Pre : Pt → Array Value → Prop} {Post : Pt → Array Value → Option Value → Pt → Prop} {PostX : Pt → Array Value → Addr → Pt → Prop} (hK : vx_Back l R p e below s args y 3 W9 Pre Post PostX)
    {g : JFrame} (hg : g.method = m) (hsize : g.locals.size = c.maxLocals) {argsL rest : List Value} (hlen : ∀ sig, parseMethodDescriptor y.desc = some sig → argsL.length = sig.parameters.length)
    (hstack : g.stack = argsL.reverse ++ rest) (hW : 2 * g.monitorRoom + (rest.map fun v => v.category).sum ≤ W9) (hdg : decode c.code g.pc = .ok (.invokestatic index, 3))
    (hpre : ∀ vm₁, s.WarmedH vm₁ → Pre ⟨T.setVm vm₁, locs, cells, slots⟩ argsL.toArray) :
    (∃ (v : Option Value) (vm₁ : Vm) (B : Pt), s.WarmedH vm₁ ∧ Stand p l e R s m args below meth c B.U B.locs B.cells B.slots ∧ Post ⟨T.setVm vm₁, locs, cells, slots⟩ argsL.toArray v B ∧
      ∀ target, Steps p.tables e below (B.U.setTop { g with pc := g.pc + 3, stack := v.toList ++ rest }) target → Steps p.tables e below (T.setTop g) target) ∨
    (∃ (q : Addr) (vm₁ : Vm) (B : Pt), s.WarmedH vm₁ ∧ Stand p l e R s m args below meth c B.U B.locs B.cells B.slots ∧ PostX ⟨T.setVm vm₁, locs, cells, slots⟩ argsL.toArray q B ∧
      Steps p.tables e below (T.setTop g) ((B.U.setTop { g with stack := rest }).pushFrame (.throwing q))) := by
  obtain ⟨mk, hnamed⟩ := Cond.code_named hcode
  obtain ⟨methM, cM, hmethM, -, -, -, -, -, -, hsigM⟩ := Cond.code_spec hnamed hcode
  have hstatic : methM.isStatic = true := Cond.static_spec hnamed hmethM hstat
  obtain ⟨kP, hkP, -⟩ := className_of_methodNamed hnamed
  have hinitP : kP.init = .initialized := Cond.initialized_spec (findClass_of_methodNamed hnamed) hkP hinit
  obtain ⟨vm₁, X₁, hstep₁⟩ := X.invokestatic hexec hown hlink hnamed hmethM hstatic hkP hinitP hy (g := g) hg (argsL := argsL) (rest := rest) (hlen _ hsigM) hstack hdg
  rcases hK m meth c ⟨T.setVm vm₁, locs, cells, slots⟩ { g with stack := rest } (.invokestatic index) mk argsL.toArray X₁ hg hsize hdg hW (X₁.named hnamed) (hpre vm₁ X₁.warmed) with ⟨v, B, X', hpost, hsteps⟩ | ⟨q, B, X', hpost, hsteps⟩
  · exact Or.inl ⟨v, vm₁, B, X₁.warmed, X', hpost, fun target h => hstep₁ _ fun acts => by rw [doInvoke_state]; exact hsteps.trans h⟩
  · exact Or.inr ⟨q, vm₁, B, X₁.warmed, X', hpost, hstep₁ _ fun acts => by rw [doInvoke_state]; exact hsteps⟩
end Calls
theorem vx_cls {s : State} {T : State} {vm₁ : Vm} {E : String} {k : ClassId} (hW : s.WarmedH vm₁) (h : (T.setVm vm₁).vm.findClass E = some k) : s.vm.findClass E = some k := by
  have h1 : vm₁.findClass E = some k := h
  rw [hW.alike.findClass] at h1
  exact h1
/-- the method's frame g, with q thrown over it -/
def vx_W (p : Program) (l : Launch) (e : Env) (R : Room) (s : State) (m : MethodId) (args : Array Value) (below : List Frame) (meth : Method) (c : Code) (H : Heap) (locs : List Loc) (cells slots : Nat) (Q : State → Prop) (g : JFrame) (q : Addr) : Prop :=
  ∀ T : State, T.heap = H → Stand p l e R s m args below meth c T locs cells slots → ∃ t, Steps p.tables e below ((T.setTop g).pushFrame (.throwing q)) t ∧ Q t
def vx_Run (p : Program) (l : Launch) (e : Env) (R : Room) (s : State) (m : MethodId) (args : Array Value) (below : List Frame) (meth : Method) (c : Code) (H : Heap) (locs : List Loc) (cells slots mc ms : Nat) (g : JFrame) (rest : List Value) (Qa : State → Outcome → State → Prop) (XC : String → State → State → Prop) (free : Addr → Prop) : Prop :=
  ∀ T : State, T.heap = H → Stand p l e R s m args below meth c T locs cells slots →
    (∃ (v : Option Value) (st₀ t T' : State) (L : List Loc), st₀.heap = H ∧ Stand p l e R s m args below meth c T' (locs ++ L) (cells + mc) (slots + ms) ∧ (∀ q ∈ L, free q.base) ∧ T'.heap = t.heap ∧ T'.vm = t.vm ∧ Qa st₀ (.returned v) t ∧
      Goes p e below T g T' { g with pc := g.pc + 3, stack := v.toList ++ rest }) ∨
    (∃ (q : Addr) (st₀ t T' : State) (L : List Loc) (E : String) (ce : Cell), st₀.heap = H ∧ Stand p l e R s m args below meth c T' (locs ++ L) (cells + mc) (slots + ms) ∧ (∀ z ∈ L, free z.base) ∧ T'.heap = t.heap ∧ T'.vm = t.vm ∧ XC E st₀ t ∧ t.heap[q]? = some ce ∧ ce.vm = .none ∧ s.vm.findClass E = some ce.cls ∧
      Steps p.tables e below (T.setTop g) ((T'.setTop { g with stack := rest }).pushFrame (.throwing q)))
def vx_X {S : Type} (px : S → Prop) (B : String → S → State → Prop) (A : Nat → Prop) : String → State → State → Prop := fun E st t => ∃ u : S, px u ∧ B E u t ∧ va_F A st t
section Runs
variable {p : Program} {l : Launch} {e : Env} {R : Room} {s : State} {m : MethodId} {args : Array Value} {below : List Frame} {meth : Method} {c : Code} {H : Heap} {locs : List Loc} {cells slots : Nat}
variable {y : MethodName} {bytes cc : ByteArray} {maxL nL mc ms n index : Nat} {ret : Option FieldType} {ws : List Cond} {rm : Room} {Pc : Array Value → State → Prop} {Qc : Array Value → State → Outcome → State → Prop} {XC : String → State → State → Prop} {free : Addr → Prop} {Ts : List Cond} {own C : String} {b : Addr} {As rest : List Value} {g : JFrame}
theorem vx_callBack (cb : CallB R s args own index y bytes maxL ret ws rm mc ms n) (hM : vx_Met l y ws rm Pc Qc XC mc ms free) (hbl : FrameBlind Pc) : vx_Back l R p e below s args y 3 8 (PreOf R mc ms Pc) (PostOf Qc mc ms free) (vx_Post XC mc ms free) := by
  obtain ⟨hrc, hrs, hfr, hlo, hws, hcw, -, hini, -⟩ := cb
  exact vx_back (bytes := bytes) (maxL := maxL) (ret := ret) hM hbl hrc hrs hfr hlo hws hcw (fun a' U hW => word_at hW (Or.inl (by first | rfl | simp [Cond.onTables, Cond.keeps, Cond.steady])) hini)
theorem vx_runV (S : CallFix p m c cc nL s args Ts own) (hM : vx_Met l y ws rm Pc Qc XC mc ms free) (cw : CallW R s args own C index y bytes maxL ret ws rm mc ms n) (hp : PreV s H C b Pc As)
    (hg : g.method = m) (hn : As.length = n) (hsize : g.locals.size = nL) (hstack : g.stack = As.reverse ++ .ref b :: rest) (hW : 2 * g.monitorRoom + (rest.map fun v => v.category).sum ≤ 8) (hdg : decode cc g.pc = .ok (.invokevirtual index, 3)) (hf : cells + mc ≤ R.cells ∧ slots + ms ≤ R.slots) :
    vx_Run p l e R s m args below meth c H locs cells slots mc ms g rest (Qc (Value.ref b :: As).toArray) XC free := by
  have hK : vx_Back l R p e below s args y 3 8 (PreOf R mc ms Pc) (PostOf Qc mc ms free) (vx_Post XC mc ms free) := vx_callBack cw.1 hM hp.1
  obtain ⟨⟨-, -, -, -, -, -, hcode, -, hy, hlen, hl⟩, hin, hse⟩ := cw
  obtain ⟨hx, hb, hml, ho, -⟩ := S
  obtain ⟨-, ⟨cellB, hcB, hoB, hclB⟩, hPc⟩ := hp
  intro T hT X
  rcases vx_callV X hx (C := C) (bytes := bytes) (maxL := maxL) (ret := ret) ho hl hin hse hcode hy hK (by rw [hT]; exact hcB) hoB hclB hg (hsize.trans hml.symm) (argsL := As) (rest := rest) (fun sig h => hn.trans (hlen sig h)) hstack hW (by rw [hb]; exact hdg)
    (fun vm₁ hW₁ => ⟨hf.1, hf.2, hPc (T.setVm vm₁) hT hW₁⟩) with ⟨v, vm₁, ⟨U', l2, c2, s2⟩, hW₁, X', ⟨g', mk, t, L, e1, e2, hq, h1, hL, h2, h3⟩, st⟩ | ⟨q, vm₁, ⟨U', l2, c2, s2⟩, hW₁, X', ⟨g', mk, t, L, E, ce, e1, e2, hq, hce, hcv, hcl, h1, hL, h2, h3⟩, st⟩
  · dsimp only [Pt.U, Pt.locs, Pt.cells, Pt.slots] at X' e1 e2 h1 h2 h3 st
    subst h1; subst h2; subst h3
    exact Or.inl ⟨v, (T.setVm vm₁).calling g' mk (Value.ref b :: As).toArray, t, U', L, hT, X', hL, e1, e2, hq, st⟩
  · dsimp only [Pt.U, Pt.locs, Pt.cells, Pt.slots] at X' e1 e2 h1 h2 h3 st hcl
    subst h1; subst h2; subst h3
    exact Or.inr ⟨q, (T.setVm vm₁).calling g' mk (Value.ref b :: As).toArray, t, U', L, E, ce, hT, X', hL, e1, e2, hq, hce, hcv, vx_cls hW₁ hcl, st⟩
theorem vx_runS (S : CallFix p m c cc nL s args Ts own) (hM : vx_Met l y ws rm Pc Qc XC mc ms free) (cw : CallB R s args own index y bytes maxL ret ws rm mc ms n ∧ (Cond.static y).before args s = true) (hp : PreS s H Pc As)
    (hg : g.method = m) (hn : As.length = n) (hsize : g.locals.size = nL) (hstack : g.stack = As.reverse ++ rest) (hW : 2 * g.monitorRoom + (rest.map fun v => v.category).sum ≤ 8) (hdg : decode cc g.pc = .ok (.invokestatic index, 3)) (hf : cells + mc ≤ R.cells ∧ slots + ms ≤ R.slots) :
    vx_Run p l e R s m args below meth c H locs cells slots mc ms g rest (Qc As.toArray) XC free := by
  have hK : vx_Back l R p e below s args y 3 8 (PreOf R mc ms Pc) (PostOf Qc mc ms free) (vx_Post XC mc ms free) := vx_callBack cw.1 hM hp.1
  obtain ⟨⟨-, -, -, -, -, -, hcode, hini, hy, hlen, hl⟩, hstt⟩ := cw
  obtain ⟨hx, hb, hml, ho, -⟩ := S
  intro T hT X
  rcases vx_callS X hx (bytes := bytes) (maxL := maxL) (ret := ret) ho hl hstt hini hcode hy hK hg (hsize.trans hml.symm) (argsL := As) (rest := rest) (fun sig h => hn.trans (hlen sig h)) hstack hW (by rw [hb]; exact hdg)
    (fun vm₁ hW₁ => ⟨hf.1, hf.2, hp.2 (T.setVm vm₁) hT hW₁⟩) with ⟨v, vm₁, ⟨U', l2, c2, s2⟩, hW₁, X', ⟨g', mk, t, L, e1, e2, hq, h1, hL, h2, h3⟩, st⟩ | ⟨q, vm₁, ⟨U', l2, c2, s2⟩, hW₁, X', ⟨g', mk, t, L, E, ce, e1, e2, hq, hce, hcv, hcl, h1, hL, h2, h3⟩, st⟩
  · dsimp only [Pt.U, Pt.locs, Pt.cells, Pt.slots] at X' e1 e2 h1 h2 h3 st
    subst h1; subst h2; subst h3
    exact Or.inl ⟨v, (T.setVm vm₁).calling g' mk As.toArray, t, U', L, hT, X', hL, e1, e2, hq, st⟩
  · dsimp only [Pt.U, Pt.locs, Pt.cells, Pt.slots] at X' e1 e2 h1 h2 h3 st hcl
    subst h1; subst h2; subst h3
    exact Or.inr ⟨q, (T.setVm vm₁).calling g' mk As.toArray, t, U', L, E, ce, hT, X', hL, e1, e2, hq, hce, hcv, vx_cls hW₁ hcl, st⟩
end Runs
section Rows
variable {p : Program} {l : Launch} {e : Env} {R : Room} {s : State} {m : MethodId} {args : Array Value} {below : List Frame} {meth : Method} {c : Code} {H : Heap} {locs : List Loc} {cells slots : Nat} {Q : State → Prop}
variable {mc ms : Nat} {free : Addr → Prop} {A0 A1 : Nat → Prop} {H0 : Heap} {a : Array Value} {pc : Nat} {ls : Array Slot} {st0 rest : List Value}
theorem vx_keep {st₀ t T' : State} {L : List Loc} (h0 : st₀.heap = H) (e1 : T'.heap = t.heap) (hS : va_S A0 H0 H locs) (hA : ∀ q, q < H.size → A1 q → A0 q) (hf : ∀ q, free q → A0 q) (hL : ∀ q ∈ L, free q.base) (hF : va_F A1 st₀ t) :
    H.size ≤ T'.heap.size ∧ (∀ q : Nat, q < H.size → ¬ A1 q → T'.heap[q]? = H[q]?) ∧ va_S A0 H0 T'.heap (locs ++ L) := by
  obtain ⟨hz, hk⟩ := hF
  rw [h0] at hz hk
  exact ⟨by rw [e1]; exact hz, fun q h1 h2 => by rw [e1]; exact hk q h1 h2,
    ⟨Nat.le_trans hS.1 (by rw [e1]; exact hz), fun q h1 h2 => by rw [e1, hk q (Nat.lt_of_lt_of_le h1 hS.1) (fun z => h2 (hA q (Nat.lt_of_lt_of_le h1 hS.1) z))]; exact hS.2.1 q h1 h2, fun q hq => by
      rcases List.mem_append.mp hq with h | h
      · exact hS.2.2 q h
      · exact hf _ (hL q h)⟩⟩
theorem vx_calli {S SX : Type} {post : Int32 → S → Prop} {px : SX → Prop} {B : S → State → Prop} {BX : String → SX → State → Prop} {AX : Nat → Prop} (hr : vx_Run p l e R s m args below meth c H locs cells slots mc ms (F0 m pc ls st0) rest (va_Qi post B A1 a) (vx_X px BX AX) free) (hS : va_S A0 H0 H locs) (hA : ∀ q, q < H.size → A1 q → A0 q) (hf : ∀ q, free q → A0 q) (hAX : ∀ q, q < H.size → AX q → A0 q)
    (kx : ∀ (E : String) (ce : Cell) (q9 : Addr) (u : SX) (t : State) (H1 : Heap) (locs1 : List Loc), t.heap = H1 → s.vm.Alike t.vm → px u → BX E u t → H.size ≤ H1.size → (∀ q : Nat, q < H.size → ¬ AX q → H1[q]? = H[q]?) → va_S A0 H0 H1 locs1 → H1[q9]? = some ce → ce.vm = .none → s.vm.findClass E = some ce.cls → vx_W p l e R s m args below meth c H1 locs1 (cells + mc) (slots + ms) Q (F0 m pc ls rest) q9)
    (kk : ∀ (r : Int32) (u : S) (t : State) (H1 : Heap) (locs1 : List Loc), t.heap = H1 → s.vm.Alike t.vm → post r u → B u t → H.size ≤ H1.size → (∀ q : Nat, q < H.size → ¬ A1 q → H1[q]? = H[q]?) → va_S A0 H0 H1 locs1 → W p l e R s m args below meth c H1 locs1 (cells + mc) (slots + ms) Q (F0 m (pc + 3) ls (.int r :: rest))) : W p l e R s m args below meth c H locs cells slots Q (F0 m pc ls st0) := by
  intro T hT X
  rcases hr T hT X with ⟨v, st₀, t, T', L, h0, X', hL, e1, e2, ⟨⟨r, u, hv, hp, hb⟩, hF⟩, st⟩ | ⟨q, st₀, t, T', L, E, ce, h0, X', hL, e1, e2, ⟨u, hp, hb, hF⟩, hce, hcv, hcl, st⟩
  · cases hv
    obtain ⟨k1, k2, k3⟩ := vx_keep h0 e1 hS hA hf hL hF
    obtain ⟨t2, a1, b1⟩ := kk r u t T'.heap (locs ++ L) e1.symm (by rw [← e2]; exact X'.warmed.alike) hp hb k1 k2 k3 T' rfl X'
    exact ⟨t2, st t2 a1, b1⟩
  · obtain ⟨k1, k2, k3⟩ := vx_keep h0 e1 hS hAX hf hL hF
    obtain ⟨t2, a1, b1⟩ := kx E ce q u t T'.heap (locs ++ L) e1.symm (by rw [← e2]; exact X'.warmed.alike) hp hb k1 k2 k3 (by rw [e1]; exact hce) hcv hcl T' rfl X'
    exact ⟨t2, st.trans a1, b1⟩
theorem vx_calll {S SX : Type} {post : Int64 → S → Prop} {px : SX → Prop} {B : S → State → Prop} {BX : String → SX → State → Prop} {AX : Nat → Prop} (hr : vx_Run p l e R s m args below meth c H locs cells slots mc ms (F0 m pc ls st0) rest (va_Ql post B A1 a) (vx_X px BX AX) free) (hS : va_S A0 H0 H locs) (hA : ∀ q, q < H.size → A1 q → A0 q) (hf : ∀ q, free q → A0 q) (hAX : ∀ q, q < H.size → AX q → A0 q)
    (kx : ∀ (E : String) (ce : Cell) (q9 : Addr) (u : SX) (t : State) (H1 : Heap) (locs1 : List Loc), t.heap = H1 → s.vm.Alike t.vm → px u → BX E u t → H.size ≤ H1.size → (∀ q : Nat, q < H.size → ¬ AX q → H1[q]? = H[q]?) → va_S A0 H0 H1 locs1 → H1[q9]? = some ce → ce.vm = .none → s.vm.findClass E = some ce.cls → vx_W p l e R s m args below meth c H1 locs1 (cells + mc) (slots + ms) Q (F0 m pc ls rest) q9)
    (kk : ∀ (r : Int64) (u : S) (t : State) (H1 : Heap) (locs1 : List Loc), t.heap = H1 → s.vm.Alike t.vm → post r u → B u t → H.size ≤ H1.size → (∀ q : Nat, q < H.size → ¬ A1 q → H1[q]? = H[q]?) → va_S A0 H0 H1 locs1 → W p l e R s m args below meth c H1 locs1 (cells + mc) (slots + ms) Q (F0 m (pc + 3) ls (.long r :: rest))) : W p l e R s m args below meth c H locs cells slots Q (F0 m pc ls st0) := by
  intro T hT X
  rcases hr T hT X with ⟨v, st₀, t, T', L, h0, X', hL, e1, e2, ⟨⟨r, u, hv, hp, hb⟩, hF⟩, st⟩ | ⟨q, st₀, t, T', L, E, ce, h0, X', hL, e1, e2, ⟨u, hp, hb, hF⟩, hce, hcv, hcl, st⟩
  · cases hv
    obtain ⟨k1, k2, k3⟩ := vx_keep h0 e1 hS hA hf hL hF
    obtain ⟨t2, a1, b1⟩ := kk r u t T'.heap (locs ++ L) e1.symm (by rw [← e2]; exact X'.warmed.alike) hp hb k1 k2 k3 T' rfl X'
    exact ⟨t2, st t2 a1, b1⟩
  · obtain ⟨k1, k2, k3⟩ := vx_keep h0 e1 hS hAX hf hL hF
    obtain ⟨t2, a1, b1⟩ := kx E ce q u t T'.heap (locs ++ L) e1.symm (by rw [← e2]; exact X'.warmed.alike) hp hb k1 k2 k3 (by rw [e1]; exact hce) hcv hcl T' rfl X'
    exact ⟨t2, st.trans a1, b1⟩
theorem vx_callf {S SX : Type} {post : UInt32 → S → Prop} {px : SX → Prop} {B : S → State → Prop} {BX : String → SX → State → Prop} {AX : Nat → Prop} (hr : vx_Run p l e R s m args below meth c H locs cells slots mc ms (F0 m pc ls st0) rest (va_Qf post B A1 a) (vx_X px BX AX) free) (hS : va_S A0 H0 H locs) (hA : ∀ q, q < H.size → A1 q → A0 q) (hf : ∀ q, free q → A0 q) (hAX : ∀ q, q < H.size → AX q → A0 q)
    (kx : ∀ (E : String) (ce : Cell) (q9 : Addr) (u : SX) (t : State) (H1 : Heap) (locs1 : List Loc), t.heap = H1 → s.vm.Alike t.vm → px u → BX E u t → H.size ≤ H1.size → (∀ q : Nat, q < H.size → ¬ AX q → H1[q]? = H[q]?) → va_S A0 H0 H1 locs1 → H1[q9]? = some ce → ce.vm = .none → s.vm.findClass E = some ce.cls → vx_W p l e R s m args below meth c H1 locs1 (cells + mc) (slots + ms) Q (F0 m pc ls rest) q9)
    (kk : ∀ (r : UInt32) (u : S) (t : State) (H1 : Heap) (locs1 : List Loc), t.heap = H1 → s.vm.Alike t.vm → post r u → B u t → H.size ≤ H1.size → (∀ q : Nat, q < H.size → ¬ A1 q → H1[q]? = H[q]?) → va_S A0 H0 H1 locs1 → W p l e R s m args below meth c H1 locs1 (cells + mc) (slots + ms) Q (F0 m (pc + 3) ls (.float r :: rest))) : W p l e R s m args below meth c H locs cells slots Q (F0 m pc ls st0) := by
  intro T hT X
  rcases hr T hT X with ⟨v, st₀, t, T', L, h0, X', hL, e1, e2, ⟨⟨r, u, hv, hp, hb⟩, hF⟩, st⟩ | ⟨q, st₀, t, T', L, E, ce, h0, X', hL, e1, e2, ⟨u, hp, hb, hF⟩, hce, hcv, hcl, st⟩
  · cases hv
    obtain ⟨k1, k2, k3⟩ := vx_keep h0 e1 hS hA hf hL hF
    obtain ⟨t2, a1, b1⟩ := kk r u t T'.heap (locs ++ L) e1.symm (by rw [← e2]; exact X'.warmed.alike) hp hb k1 k2 k3 T' rfl X'
    exact ⟨t2, st t2 a1, b1⟩
  · obtain ⟨k1, k2, k3⟩ := vx_keep h0 e1 hS hAX hf hL hF
    obtain ⟨t2, a1, b1⟩ := kx E ce q u t T'.heap (locs ++ L) e1.symm (by rw [← e2]; exact X'.warmed.alike) hp hb k1 k2 k3 (by rw [e1]; exact hce) hcv hcl T' rfl X'
    exact ⟨t2, st.trans a1, b1⟩
theorem vx_calld {S SX : Type} {post : UInt64 → S → Prop} {px : SX → Prop} {B : S → State → Prop} {BX : String → SX → State → Prop} {AX : Nat → Prop} (hr : vx_Run p l e R s m args below meth c H locs cells slots mc ms (F0 m pc ls st0) rest (va_Qd post B A1 a) (vx_X px BX AX) free) (hS : va_S A0 H0 H locs) (hA : ∀ q, q < H.size → A1 q → A0 q) (hf : ∀ q, free q → A0 q) (hAX : ∀ q, q < H.size → AX q → A0 q)
    (kx : ∀ (E : String) (ce : Cell) (q9 : Addr) (u : SX) (t : State) (H1 : Heap) (locs1 : List Loc), t.heap = H1 → s.vm.Alike t.vm → px u → BX E u t → H.size ≤ H1.size → (∀ q : Nat, q < H.size → ¬ AX q → H1[q]? = H[q]?) → va_S A0 H0 H1 locs1 → H1[q9]? = some ce → ce.vm = .none → s.vm.findClass E = some ce.cls → vx_W p l e R s m args below meth c H1 locs1 (cells + mc) (slots + ms) Q (F0 m pc ls rest) q9)
    (kk : ∀ (r : UInt64) (u : S) (t : State) (H1 : Heap) (locs1 : List Loc), t.heap = H1 → s.vm.Alike t.vm → post r u → B u t → H.size ≤ H1.size → (∀ q : Nat, q < H.size → ¬ A1 q → H1[q]? = H[q]?) → va_S A0 H0 H1 locs1 → W p l e R s m args below meth c H1 locs1 (cells + mc) (slots + ms) Q (F0 m (pc + 3) ls (.double r :: rest))) : W p l e R s m args below meth c H locs cells slots Q (F0 m pc ls st0) := by
  intro T hT X
  rcases hr T hT X with ⟨v, st₀, t, T', L, h0, X', hL, e1, e2, ⟨⟨r, u, hv, hp, hb⟩, hF⟩, st⟩ | ⟨q, st₀, t, T', L, E, ce, h0, X', hL, e1, e2, ⟨u, hp, hb, hF⟩, hce, hcv, hcl, st⟩
  · cases hv
    obtain ⟨k1, k2, k3⟩ := vx_keep h0 e1 hS hA hf hL hF
    obtain ⟨t2, a1, b1⟩ := kk r u t T'.heap (locs ++ L) e1.symm (by rw [← e2]; exact X'.warmed.alike) hp hb k1 k2 k3 T' rfl X'
    exact ⟨t2, st t2 a1, b1⟩
  · obtain ⟨k1, k2, k3⟩ := vx_keep h0 e1 hS hAX hf hL hF
    obtain ⟨t2, a1, b1⟩ := kx E ce q u t T'.heap (locs ++ L) e1.symm (by rw [← e2]; exact X'.warmed.alike) hp hb k1 k2 k3 (by rw [e1]; exact hce) hcv hcl T' rfl X'
    exact ⟨t2, st.trans a1, b1⟩
theorem vx_callv {S SX : Type} {post : S → Prop} {px : SX → Prop} {B : S → State → Prop} {BX : String → SX → State → Prop} {AX : Nat → Prop} (hr : vx_Run p l e R s m args below meth c H locs cells slots mc ms (F0 m pc ls st0) rest (va_Qv post B A1 a) (vx_X px BX AX) free) (hS : va_S A0 H0 H locs) (hA : ∀ q, q < H.size → A1 q → A0 q) (hf : ∀ q, free q → A0 q) (hAX : ∀ q, q < H.size → AX q → A0 q)
    (kx : ∀ (E : String) (ce : Cell) (q9 : Addr) (u : SX) (t : State) (H1 : Heap) (locs1 : List Loc), t.heap = H1 → s.vm.Alike t.vm → px u → BX E u t → H.size ≤ H1.size → (∀ q : Nat, q < H.size → ¬ AX q → H1[q]? = H[q]?) → va_S A0 H0 H1 locs1 → H1[q9]? = some ce → ce.vm = .none → s.vm.findClass E = some ce.cls → vx_W p l e R s m args below meth c H1 locs1 (cells + mc) (slots + ms) Q (F0 m pc ls rest) q9)
    (kk : ∀ (u : S) (t : State) (H1 : Heap) (locs1 : List Loc), t.heap = H1 → s.vm.Alike t.vm → post u → B u t → H.size ≤ H1.size → (∀ q : Nat, q < H.size → ¬ A1 q → H1[q]? = H[q]?) → va_S A0 H0 H1 locs1 → W p l e R s m args below meth c H1 locs1 (cells + mc) (slots + ms) Q (F0 m (pc + 3) ls (rest))) : W p l e R s m args below meth c H locs cells slots Q (F0 m pc ls st0) := by
  intro T hT X
  rcases hr T hT X with ⟨v, st₀, t, T', L, h0, X', hL, e1, e2, ⟨⟨u, hv, hp, hb⟩, hF⟩, st⟩ | ⟨q, st₀, t, T', L, E, ce, h0, X', hL, e1, e2, ⟨u, hp, hb, hF⟩, hce, hcv, hcl, st⟩
  · cases hv
    obtain ⟨k1, k2, k3⟩ := vx_keep h0 e1 hS hA hf hL hF
    obtain ⟨t2, a1, b1⟩ := kk u t T'.heap (locs ++ L) e1.symm (by rw [← e2]; exact X'.warmed.alike) hp hb k1 k2 k3 T' rfl X'
    exact ⟨t2, st t2 a1, b1⟩
  · obtain ⟨k1, k2, k3⟩ := vx_keep h0 e1 hS hAX hf hL hF
    obtain ⟨t2, a1, b1⟩ := kx E ce q u t T'.heap (locs ++ L) e1.symm (by rw [← e2]; exact X'.warmed.alike) hp hb k1 k2 k3 (by rw [e1]; exact hce) hcv hcl T' rfl X'
    exact ⟨t2, st.trans a1, b1⟩
/-- caught by the row x of this method's table; the rows ahead don't take it -/
theorem vx_catch {own name : String} {E : String} {ce : Cell} {q : Addr} (hown : s.vm.findClass own = some m.cls) (pre : List ExceptionTableEntry) (x : ExceptionTableEntry) (suf : List ExceptionTableEntry) (hsplit : c.exceptionTable.toList = pre ++ x :: suf)
    (hpass : ∀ z ∈ pre, covers z pc = false ∨ (z.catchType ≠ 0 ∧ ∃ nm : String, (Cond.classLink own z.catchType nm).before args s = true ∧ va_Nc E nm s)) (hx : covers x pc = true) (h0 : x.catchType ≠ 0)
    (hlink : (Cond.classLink own x.catchType name).before args s = true) (hcast : (Cond.castable E name).before args s = true) (hcell : H[q]? = some ce) (hv : ce.vm = .none) (hcl : s.vm.findClass E = some ce.cls)
    (kk : W p l e R s m args below meth c H locs cells slots Q (F0 m x.handlerPc ls [.ref q])) : vx_W p l e R s m args below meth c H locs cells slots Q (F0 m pc ls rest) q := by
  intro T hT X
  have hpl : e.platform.magicAccessors = ({} : Platform).magicAccessors := by rw [X.admits.platform]
  obtain ⟨c3, c4, hc3, hc4, hasg⟩ := Cond.castable_spec hcast
  cases Option.some.inj (hc3.symm.trans hcl)
  obtain ⟨c5, hc5, hcl5⟩ := Cond.classLink_spec hown hlink e.platform hpl
  cases Option.some.inj (hc4.symm.trans hc5)
  obtain ⟨vm', X', st⟩ := X.thenCaughtThrough q (g := F0 m pc ls rest) rfl (Steps.refl _) (by rw [hT]; exact hcell) (by rw [hv]; rfl) (by obtain ⟨k9, h9, -⟩ := Vm.findClass_spec hcl; exact ⟨k9, h9⟩) pre x suf hsplit
    (fun z hz => by
      rcases hpass z hz with h | ⟨hz0, nm, hl1, hn1⟩
      · exact Or.inl h
      · obtain ⟨c6, hc6, hcl6⟩ := Cond.classLink_spec hown hl1 e.platform hpl
        obtain ⟨a8, b8, h1, h2, h3⟩ := hn1
        cases Option.some.inj (h1.symm.trans hcl)
        cases Option.some.inj (h2.symm.trans hc6)
        exact Or.inr ⟨hz0, _, hcl6, h3⟩) hx (Or.inr ⟨h0, c4, hcl5, hasg⟩)
  obtain ⟨t, a1, b1⟩ := kk (T.setVm vm') hT X'
  exact ⟨t, st.trans a1, b1⟩
end Rows
section Ends
variable {p : Program} {l : Launch} {e : Env} {R : Room} {s : State} {m : MethodId} {args : Array Value} {below : List Frame} {meth : Method} {c : Code} {H : Heap} {locs : List Loc} {cells slots : Nat} {Q : State → Prop}
variable {mc ms : Nat} {free : Addr → Prop} {A0 A1 : Nat → Prop} {H0 : Heap} {a : Array Value} {ls : Array Slot} {st0 rest : List Value}
variable {Qc : Array Value → State → Outcome → State → Prop} {XC : String → State → State → Prop}
/-- what a body that may throw owes at its end -/
def vx_MQ (below : List Frame) (Qc : Array Value → State → Outcome → State → Prop) (XC : String → State → State → Prop) (a : Array Value) (s : State) (mc ms : Nat) (free : Addr → Prop) : State → Prop := fun t =>
  ∃ o, t.status = .running ∧ Ended t below o ∧ vx_Q Qc XC mc ms free a s o t
theorem vx_ret {g : JFrame} {mc ms : Nat} (k : W p l e R s m args below meth c H locs cells slots (MQ below Qc args s mc ms free) g) : W p l e R s m args below meth c H locs cells slots (vx_MQ below Qc XC args s mc ms free) g := by
  intro T hT X
  obtain ⟨t, a1, o, b1, b2, b3, b4⟩ := k T hT X
  exact ⟨t, a1, o, b1, b2, Or.inl ⟨b3, b4⟩⟩
/-- not caught here: it goes on to the caller -/
theorem vx_widen {g : JFrame} {q : Addr} {k n : Nat} (h1 : cells ≤ k) (h2 : slots ≤ n) (kk : vx_W p l e R s m args below meth c H locs k n Q g q) : vx_W p l e R s m args below meth c H locs cells slots Q g q := fun T hT X => kk T hT (stand_widen X h1 h2)
theorem vx_out {pc : Nat} {E : String} {ce : Cell} {q : Addr} {mc ms : Nat} (hout : ∀ x ∈ c.exceptionTable.toList, covers x pc = false) (hlocks : meth.locks = false) (hcell : H[q]? = some ce) (hv : ce.vm = .none) (hcl : s.vm.findClass E = some ce.cls)
    (hx : ∀ t : State, t.heap = H → s.vm.Alike t.vm → XC E s t) (hf : ∀ z ∈ locs, free z.base) (hc : cells ≤ mc) (hs : slots ≤ ms) :
    vx_W p l e R s m args below meth c H locs cells slots (vx_MQ below Qc XC args s mc ms free) (F0 m pc ls rest) q := by
  intro T hT X
  obtain ⟨st1, hrun, hend, hW, hsm⟩ := X.leaveThrown q (g := F0 m pc ls rest) rfl rfl rfl hout hlocks
  have hcell9 : (T.setFrames (.throwing q :: below)).heap[q]? = some ce := by
    show T.heap[q]? = some ce
    rw [hT]; exact hcell
  exact ⟨_, st1, .threw q, hrun, hend, Or.inr ⟨q, rfl, E, ce, locs, hx _ hT hW.alike, hcell9, hv, hcl, hW, hsm.mono hc hs, hf⟩⟩
theorem vx_frame {U : State} {k n : Nat} (h : s.sameButNew ({ U with vm := s.vm } : State) locs k n) : s.heap.size ≤ U.heap.size ∧ ∀ q : Nat, q < s.heap.size → (∀ z ∈ locs, z.base ≠ q) → U.heap[q]? = s.heap[q]? := by
  obtain ⟨-, h2, -, -, -, h6⟩ := h
  refine ⟨h2, fun q hq hz => ?_⟩
  obtain ⟨c9, e1, e2, e3, e4⟩ := h6 q _ (Array.getElem?_eq_getElem hq)
  have hs : c9.slots = (s.heap[q]).slots := Array.ext_getElem? fun i => e4 i fun hm => hz _ hm rfl
  have h9 : c9 = s.heap[q] := by
    rw [hs] at e2
    exact e2
  have e5 : U.heap[q]? = some c9 := e1
  rw [e5, h9, Array.getElem?_eq_getElem hq]
/-- the words of a throw but the four that speak of the heap -/
def vx_no (w : Cond) : Bool := decide (w ≠ .isRef (.static Bundle.tN "UNASSIGNED_STACK" Bundle.steD)) && decide (w ≠ .isRef (.static Bundle.tN "SUPPRESSED_SENTINEL" Bundle.listD)) && decide (w ≠ .laysStatic Bundle.tN "UNASSIGNED_STACK" Bundle.steD) && decide (w ≠ .laysStatic Bundle.tN "SUPPRESSED_SENTINEL" Bundle.listD)
def vx_at0 (own : String) (ic : Nat) (X : String) (names : List String) : List Cond := (Bundle.ownAtoms0 own ic X names).filter vx_no
def vx_atS (own : String) (ic : Nat) (X : String) (names : List String) : List Cond := (Bundle.ownAtoms own ic X names).filter vx_no
/-- a word that the tables alone decide, or a good one -/
def vx_ot (w : Cond) : Bool := w.onTables || goodWord w
theorem vx_ot_at {args a' : Array Value} {s U : State} {w : Cond} (hW : s.WarmedH U.vm) (hvm : s.vm = U.vm) (hg : vx_ot w = true) (h : w.before args s = true) : w.before a' U = true := by
  simp only [vx_ot, Bool.or_eq_true] at hg
  rcases hg with hg | hg
  · exact va_tabs hg hvm h
  · exact word_at hW (good_of_word hg) h
/-- a list's words: the good ones out of the method's own list, the others by premises of their own -/
theorem vx_hat {args : Array Value} {s : State} {L B : List Cond} (h1 : ∀ w ∈ L.filter goodWord, w.before args s = true) (h2 : ∀ w ∈ L.filter (fun w => !goodWord w), w ∈ B) (h3 : ∀ w ∈ B, w.before args s = true) : ∀ w ∈ L, w.before args s = true := by
  intro w hw
  by_cases g : goodWord w = true
  · exact h1 w (List.mem_filter.mpr ⟨hw, g⟩)
  · refine h3 w (h2 w (List.mem_filter.mpr ⟨hw, ?_⟩))
    show (!goodWord w) = true
    cases hgw : goodWord w
    · rfl
    · exact absurd hgw g
theorem vx_c {args : Array Value} {s : State} {w : Cond} {B : List Cond} (h : w.before args s = true) (t : ∀ w ∈ B, w.before args s = true) : ∀ w' ∈ w :: B, w'.before args s = true := fun w' h' => (List.mem_cons.mp h').elim (fun e => by rw [e]; exact h) (t w')
theorem vx_n {args : Array Value} {s : State} : ∀ w ∈ ([] : List Cond), w.before args s = true := fun _ h => nomatch h
theorem vx_own {args : Array Value} {s : State} {L : List Cond} (h1 : ∀ w ∈ L.filter vx_no, w.before args s = true)
    (hU : (Cond.isRef (.static Bundle.tN "UNASSIGNED_STACK" Bundle.steD)).before args s = true) (hN : (Cond.isRef (.static Bundle.tN "SUPPRESSED_SENTINEL" Bundle.listD)).before args s = true)
    (lU : (Cond.laysStatic Bundle.tN "UNASSIGNED_STACK" Bundle.steD).before args s = true) (lN : (Cond.laysStatic Bundle.tN "SUPPRESSED_SENTINEL" Bundle.listD).before args s = true) : ∀ w ∈ L, w.before args s = true := by
  intro w hw
  by_cases e1 : w = .isRef (.static Bundle.tN "UNASSIGNED_STACK" Bundle.steD)
  · rw [e1]; exact hU
  · by_cases e2 : w = .isRef (.static Bundle.tN "SUPPRESSED_SENTINEL" Bundle.listD)
    · rw [e2]; exact hN
    · by_cases e3 : w = .laysStatic Bundle.tN "UNASSIGNED_STACK" Bundle.steD
      · rw [e3]; exact lU
      · by_cases e4 : w = .laysStatic Bundle.tN "SUPPRESSED_SENTINEL" Bundle.listD
        · rw [e4]; exact lN
        · exact h1 w (List.mem_filter.mpr ⟨hw, by unfold vx_no; rw [decide_eq_true e1, decide_eq_true e2, decide_eq_true e3, decide_eq_true e4]; rfl⟩)
/-- where a static field lies, its class's statics cell in H -/
def vx_L (C n d : String) (A : Nat → Prop) (U : State) (H : Heap) : Prop := ∃ (c : ClassId) (k : Class) (i : Nat) (f : Field) (a : Nat) (cell : Cell), U.vm.findClass C = some c ∧ U.fieldFound? C n d = some (c, k, i, f) ∧ f.isStatic = true ∧ k.statics = some a ∧ H[a]? = some cell ∧ cell.vm.isStatics = true ∧ cell.cls = c ∧ f.slot < cell.slots.size ∧ k.staticTypes[f.slot]? = some f.type ∧ ¬ A a
theorem vx_L.moved {C n d : String} {A : Nat → Prop} {u U : State} {H : Heap} (hvm : u.vm.Alike U.vm) (h : vx_L C n d A u H) : vx_L C n d A U H := by
  obtain ⟨c, k, i, f, a, cell, h1, h2, h3, h4, h5, h6, h7, h8, h9, h10⟩ := h
  obtain ⟨k', hi', he⟩ := State.fieldFound?_setVm hvm h2
  exact ⟨c, k', i, f, a, cell, by rw [hvm.findClass]; exact h1, hi', h3, by rw [he]; exact h4, h5, h6, h7, h8, by rw [he]; exact h9, h10⟩
theorem vx_L.kept {C n d : String} {A : Nat → Prop} {U : State} {H H1 : Heap} (h : vx_L C n d A U H) (hq : ∀ a : Nat, a < H.size → ¬ A a → H1[a]? = H[a]?) : vx_L C n d A U H1 := by
  obtain ⟨c, k, i, f, a, cell, h1, h2, h3, h4, h5, h6, h7, h8, h9, h10⟩ := h
  exact ⟨c, k, i, f, a, cell, h1, h2, h3, h4, by rw [hq a (Array.getElem?_eq_some_iff.mp h5).1 h10]; exact h5, h6, h7, h8, h9, h10⟩
theorem vx_L.narrow {C n d : String} {A B : Nat → Prop} {U : State} {H : Heap} (h : vx_L C n d A U H) (hAB : ∀ q, B q → A q) : vx_L C n d B U H := by
  obtain ⟨c, k, i, f, a, cell, h1, h2, h3, h4, h5, h6, h7, h8, h9, h10⟩ := h
  exact ⟨c, k, i, f, a, cell, h1, h2, h3, h4, h5, h6, h7, h8, h9, fun z => h10 (hAB _ z)⟩
theorem vx_L.word {C n d : String} {A : Nat → Prop} {s : State} {args : Array Value} (h : vx_L C n d A s s.heap) : (Cond.laysStatic C n d).before args s = true := by
  obtain ⟨c, k, i, f, a, cell, h1, h2, h3, h4, h5, h6, h7, h8, h9, -⟩ := h
  show (Cond.laysStatic C n d).holds args s none s [] = true
  exact Cond.laysStatic_of h1 h2 h3 h4 h5 h6 h7 h8 h9
/-- .. and what it holds: null or some reference -/
def vx_Zq (C n d : String) (A : Nat → Prop) (U : State) (H : Heap) : Prop := va_Zq C n d A U H ∧ vx_L C n d A U H
theorem vx_Zq.moved {C n d : String} {A : Nat → Prop} {u U : State} {H : Heap} (hvm : u.vm.Alike U.vm) (h : vx_Zq C n d A u H) : vx_Zq C n d A U H := ⟨va_Zq.moved hvm h.1, vx_L.moved hvm h.2⟩
theorem vx_Zq.kept {C n d : String} {A : Nat → Prop} {U : State} {H H1 : Heap} (h : vx_Zq C n d A U H) (hq : ∀ a : Nat, a < H.size → ¬ A a → H1[a]? = H[a]?) : vx_Zq C n d A U H1 := ⟨va_Zq.kept h.1 hq, vx_L.kept h.2 hq⟩
theorem vx_Zq.narrow {C n d : String} {A B : Nat → Prop} {U : State} {H : Heap} (h : vx_Zq C n d A U H) (hAB : ∀ q, B q → A q) : vx_Zq C n d B U H := ⟨va_Zq.narrow h.1 hAB, vx_L.narrow h.2 hAB⟩
theorem vx_Zqof {args : Array Value} {s : State} {C n d : String} {A : Nat → Prop} (hl : (Cond.laysStatic C n d).before args s = true) (hini : (Cond.initialized C).before args s = true) (h : (Cond.isRef (.static C n d)).before args s = true) (hA : ∀ a : Nat, a < s.heap.size → ¬ A a) : vx_Zq C n d A s s.heap := by
  refine ⟨va_Zqof hl hini h hA, ?_⟩
  obtain ⟨c, k, i, f, a, cell, h1, h2, h3, h4, h5, h6, h7, h8, h9⟩ := Cond.laysStatic_spec hl
  exact ⟨c, k, i, f, a, cell, h1, h2, h3, h4, h5, h6, h7, h8, h9, hA a (Array.getElem?_eq_some_iff.mp h5).1⟩
theorem vx_isRef {C n d : String} {v : Value} {A : Nat → Prop} {s : State} {args : Array Value} (h : va_Z C n d v A s s.heap) (hv : v.isRef = true) : (Cond.isRef (.static C n d)).before args s = true := by
  obtain ⟨cf, kf, fi, f, a, cell, h1, h2, h3, h4, h5, h6, h7, -⟩ := h
  have he : (Term.static C n d).eval args s none [] s = some v := by
    simp [Term.eval, State.fieldNamed?, h1, h2, h4, h5, h6, h7]
  simp only [Cond.before, Cond.holds, Cond.value, he]
  cases v <;> simp_all [Value.isRef]
theorem vx_isRefq {C n d : String} {A : Nat → Prop} {s : State} {args : Array Value} (h : va_Zq C n d A s s.heap) : (Cond.isRef (.static C n d)).before args s = true := by
  rcases h with h | ⟨t, h⟩
  · exact vx_isRef h rfl
  · exact vx_isRef h rfl
/-- the same frame, seen from here: as if the method were called anew in this heap -/
theorem vx_rebase {T : State} (X : Stand p l e R s m args below meth c T locs cells slots) {R' : Room} (hf : R'.frames ≤ R.frames) (hl : R'.locals ≤ R.locals) (hc : cells + R'.cells ≤ R.cells) (hs : slots + R'.slots ≤ R.slots) :
    Stand p l e R' ((T.setVm s.vm).setFrames (.invoking m args :: below)) m args below meth c T [] 0 0 := by
  have htop : (T.setVm s.vm).topJava?.isSome := X.here.top
  have hF : ((T.setVm s.vm).setFrames (.invoking m args :: below)).frames = .invoking m args :: below := State.frames_setFrames _ (State.cur_lt_of_top htop)
  obtain ⟨g₀, hg0⟩ := Option.isSome_iff_exists.mp htop
  obtain ⟨r, hr⟩ := State.topJava?_eq_some.mp hg0
  have hl9 : e.platform.stackLimits (T.setVm s.vm).me = e.platform.stackLimits s.me := X.limits
  have hb9 : (T.setVm s.vm).me.stackBytes = s.me.stackBytes := X.bytes
  refine ⟨X.admits, X.cas, X.clock, hF, ?_, X.hears, X.method, X.code, X.here, X.tail, X.warmed, ?_, ?_, ?_⟩
  · have h := X.room
    have hU : ((T.setVm s.vm).setFrames (.invoking m args :: below)).localsInUse = s.localsInUse := by
      rw [State.localsInUse_invoking hF (meth := meth) (c := c) X.method X.code, State.localsInUse_invoking X.frames X.method X.code]
    simp only [State.hasRoom, Bool.and_eq_true, decide_eq_true_eq] at h ⊢
    obtain ⟨⟨⟨⟨h1, h2, h3, h4, h5, h6⟩, h7⟩, h8⟩, h9⟩ := h
    rw [X.frames, List.length_cons] at h2 h3
    have q1 := X.heapSize
    have q2 := X.used
    simp only [hF, hU, List.length_cons, State.stackLimits_setFrames, State.stackBytes_setFrames, hl9, hb9]
    refine ⟨⟨⟨⟨by omega, by omega, by omega, by omega, by omega, h6⟩, ?_⟩, ?_⟩, X.book⟩
    · show T.heap.size + R'.cells ≤ e.platform.maxCells
      omega
    · show T.slotsUsed + R'.slots ≤ e.platform.maxSlots
      omega
  · rw [State.stackLimits_setFrames]; rfl
  · rw [State.stackBytes_setFrames]; rfl
  · refine ⟨?_, Nat.le_refl _, Nat.le_refl _, ?_, ?_, fun a c9 h9 => ⟨c9, h9, rfl, rfl, fun _ _ => rfl⟩⟩
    · obtain ⟨t, ht, -⟩ := State.frames_cons hr
      show T.setVm s.vm = { ((T.setVm s.vm).setFrames (.invoking m args :: below)).setFrames (T.setVm s.vm).frames with heap := T.heap, slotsUsed := T.slotsUsed }
      rw [State.setFrames_setFrames, State.setFrames_self ht]
      rfl
    · show T.slotsUsed = T.slotsUsed + ((T.heap.toList.drop T.heap.size).map (·.slots.size)).sum
      rw [List.drop_eq_nil_of_le (Nat.le_of_eq Array.length_toList)]
      rfl
    · show ((T.heap.toList.drop T.heap.size).map (·.slots.size)).sum ≤ 0
      rw [List.drop_eq_nil_of_le (Nat.le_of_eq Array.length_toList)]
      exact Nat.le_refl _
/-- 'throw new E()': new; dup; invokespecial; athrow -/
theorem vx_throw0 {cc : ByteArray} {pc : Nat} (hexec : p.tables.exec = Jvm.exec) (hb : c.code = cc) (hl : l.stackTraces = false) {own cls : String} {names : List String} {ik ic mc ms : Nat} {A : Nat → Prop}
    (hown : s.vm.findClass own = some m.cls) (hcls : Bundle.fit cls = true) (hnames : ∀ n ∈ names, Bundle.fit n = true)
    (hk : (Cond.classLink own ik cls).before args s = true) (hini : (Cond.initialized cls).before args s = true) (hat : ∀ w ∈ vx_at0 own ic cls names, w.before args s = true)
    (hgood : ∀ w ∈ Cond.classLink own ik cls :: Cond.initialized cls :: vx_at0 own ic cls names, vx_ot w = true)
    (hU : vx_Zq Bundle.tN "UNASSIGNED_STACK" Bundle.steD A s s.heap) (hN : vx_Zq Bundle.tN "SUPPRESSED_SENTINEL" Bundle.listD A s s.heap) (hS : va_S A s.heap H locs) (hsize : ls.size = c.maxLocals)
    (d0 : decode cc pc = .ok (.new ik, 3)) (d3 : decode cc (pc + 3) = .ok (.dup, 1)) (d4 : decode cc (pc + 4) = .ok (.invokespecial ic, 3)) (d7 : decode cc (pc + 7) = .ok (.athrow, 1))
    (hout : ∀ x ∈ c.exceptionTable.toList, covers x (pc + 7) = false)
    (hRframes : names.length + 3 < R.frames) (hRlocals : (rest.map fun v => v.category).sum + (13 * (names.length + 1) + 42) ≤ R.locals) (hRcells : cells + 1 ≤ R.cells) (hRslots : slots + 6 ≤ R.slots) (hlocks : meth.locks = false)
    (hx : ∀ t : State, s.vm.Alike t.vm → H.size ≤ t.heap.size → (∀ q : Nat, q < H.size → t.heap[q]? = H[q]?) → XC cls s t)
    (hf : ∀ z ∈ locs, free z.base) (hc : cells + 1 ≤ mc) (hs : slots + 6 ≤ ms) :
    W p l e R s m args below meth c H locs cells slots (vx_MQ below Qc XC args s mc ms free) (F0 m pc ls rest) := by
  intro T hT X
  have htr : e.platform.stackTraces = false := (show e.platform.stackTraces = l.stackTraces by rw [X.admits.platform]).trans hl
  have Y := vx_rebase X (R' := { frames := R.frames, locals := R.locals, cells := 1, slots := 6 }) (Nat.le_refl _) (Nat.le_refl _) hRcells hRslots
  obtain ⟨s', hA⟩ : ∃ z, z = (T.setVm s.vm).setFrames (.invoking m args :: below) := ⟨_, rfl⟩
  rw [← hA] at Y
  have hvm : s'.vm = s.vm := by rw [hA]; rfl
  have hhp : s'.heap = H := by rw [hA]; exact hT
  have hW0 : s.WarmedH s'.vm := by rw [hvm]; exact State.WarmedH.refl s
  have hat' : ∀ w ∈ vx_at0 own ic cls names, w.before args s' = true := fun w hw => vx_ot_at hW0 hvm.symm (hgood w (List.mem_cons_of_mem _ (List.mem_cons_of_mem _ hw))) (hat w hw)
  have hk' : (Cond.classLink own ik cls).before args s' = true := vx_ot_at hW0 hvm.symm (hgood _ List.mem_cons_self) hk
  have hini' : (Cond.initialized cls).before args s' = true := vx_ot_at hW0 hvm.symm (hgood _ (List.mem_cons_of_mem _ List.mem_cons_self)) hini
  have hU' : vx_Zq Bundle.tN "UNASSIGNED_STACK" Bundle.steD A s' s'.heap := by rw [hhp]; exact vx_Zq.moved hW0.alike (hU.kept hS.2.1)
  have hN' : vx_Zq Bundle.tN "SUPPRESSED_SENTINEL" Bundle.listD A s' s'.heap := by rw [hhp]; exact vx_Zq.moved hW0.alike (hN.kept hS.2.1)
  have h : ∀ w ∈ Bundle.ownAtoms0 own ic cls names, w.before args s' = true := vx_own hat' (vx_isRefq hU'.1) (vx_isRefq hN'.1) hU'.2.word hN'.2.word
  have hown' : s'.vm.findClass own = some m.cls := by rw [hvm]; exact hown
  have hins : (Cond.instantiable cls 6).before args s' = true := h _ (by simp [Bundle.ownAtoms0])
  obtain ⟨vm₁, cX, kX, hfX, hkX, -, -, X₁, st1⟩ := Y.newCold hexec (own := own) (C := cls) (index := ik) (n := 6) hown' hk' hins hini'
    (g := F0 m pc ls rest) rfl (by rw [hb]; exact d0) (Nat.le_refl _) (Nat.le_refl _)
  generalize hT1 : (T.setVm vm₁).pushCell { cls := cX, slots := kX.instanceTypes.map defaultValue, vm := .none } = T1 at X₁ st1
  have hcat : (Value.ref T.heap.size).category = 1 := rfl
  have hcellA : T1.heap[T.heap.size]? = some (freshCell cX kX) := by rw [← hT1]; exact State.heap_pushCell_size _ _
  have d3' : decode c.code (pc + 3) = .ok (.dup, 1) := by rw [hb]; exact d3
  obtain ⟨U, hsteps, hrun, hend, hW, hsame, ce, hce, hO⟩ := X₁.ctorThrow0 hexec htr (own := own) (cls := cls) (names := names) (ic := ic) hown' hcls hnames h (fun x hx => nomatch hx) hfX hkX hcellA (by rw [hhp, hT]; exact Nat.le_refl _)
    (g := { method := m, pc := pc + 4, locals := ls, stack := .ref T.heap.size :: .ref T.heap.size :: rest, locked := none }) rfl hsize rfl rfl (rest := rest) rfl
    (by rw [hb]; exact d4) (by rw [hb]; exact d7) hout hRframes (by simp only [List.map_cons, List.sum_cons, hcat]; omega) hlocks
  obtain ⟨f1, f2⟩ := vx_frame hsame
  rw [hhp] at f1 f2
  have hWs : s.WarmedH U.vm := State.WarmedH.trans hW0 hW
  have hcl : s.vm.findClass cls = some ce.cls := by
    have h9 := hO.cls
    rw [hvm] at h9
    exact h9
  have hall : s.sameButNew ({ U with vm := s.vm } : State) locs mc ms := by
    subst hA
    obtain ⟨e1, e2⟩ := hsame
    rw [State.setFrames_setFrames] at e1
    have h2 : (T.setVm s.vm).sameButNew ({ U with vm := s.vm } : State) [] (0 + 1) (0 + 6) := ⟨e1, e2⟩
    have h3 := X.same.trans h2
    rw [List.append_nil] at h3
    exact h3.mono hc hs
  refine ⟨U, ?_, .threw T.heap.size, hrun, hend, Or.inr ⟨T.heap.size, rfl, cls, ce, locs, hx U hWs.alike f1 (fun q hq => f2 q hq (fun z hz => nomatch hz)), hce, hO.vm, hcl, hWs, hall, hf⟩⟩
  refine st1 _ ?_
  show Steps p.tables e below (T1.setTop { method := m, pc := pc + 3, locals := ls, stack := .ref T.heap.size :: rest, locked := none }) _
  jvm_step X₁.here [X₁.here.top, hexec, d3', Value.category]
  exact hsteps
/-- 'throw new E("text")': new; dup; ldc; invokespecial; athrow -/
theorem vx_throwS {cc : ByteArray} {pc : Nat} (hexec : p.tables.exec = Jvm.exec) (hb : c.code = cc) (hl : l.stackTraces = false) {own cls text : String} {names : List String} {ik is ic mc ms sa : Nat} {A : Nat → Prop}
    (hown : s.vm.findClass own = some m.cls) (hcls : Bundle.fit cls = true) (hnames : ∀ n ∈ names, Bundle.fit n = true)
    (hk : (Cond.classLink own ik cls).before args s = true) (hini : (Cond.initialized cls).before args s = true) (hstr : vk_R own is text sa s) (hat : ∀ w ∈ vx_atS own ic cls names, w.before args s = true)
    (hgood : ∀ w ∈ Cond.classLink own ik cls :: Cond.initialized cls :: vx_atS own ic cls names, vx_ot w = true)
    (hU : vx_Zq Bundle.tN "UNASSIGNED_STACK" Bundle.steD A s s.heap) (hN : vx_Zq Bundle.tN "SUPPRESSED_SENTINEL" Bundle.listD A s s.heap) (hS : va_S A s.heap H locs) (hsize : ls.size = c.maxLocals)
    (d0 : decode cc pc = .ok (.new ik, 3)) (d3 : decode cc (pc + 3) = .ok (.dup, 1)) (d4 : decode cc (pc + 4) = .ok (.ldc is, 2)) (d6 : decode cc (pc + 6) = .ok (.invokespecial ic, 3)) (d9 : decode cc (pc + 9) = .ok (.athrow, 1))
    (hout : ∀ x ∈ c.exceptionTable.toList, covers x (pc + 9) = false)
    (hRframes : names.length + 3 < R.frames) (hRlocals : (rest.map fun v => v.category).sum + (13 * (names.length + 1) + 43) ≤ R.locals) (hRcells : cells + 1 ≤ R.cells) (hRslots : slots + 6 ≤ R.slots) (hlocks : meth.locks = false)
    (hx : ∀ t : State, s.vm.Alike t.vm → H.size ≤ t.heap.size → (∀ q : Nat, q < H.size → t.heap[q]? = H[q]?) → XC cls s t)
    (hf : ∀ z ∈ locs, free z.base) (hc : cells + 1 ≤ mc) (hs : slots + 6 ≤ ms) :
    W p l e R s m args below meth c H locs cells slots (vx_MQ below Qc XC args s mc ms free) (F0 m pc ls rest) := by
  intro T hT X
  have htr : e.platform.stackTraces = false := (show e.platform.stackTraces = l.stackTraces by rw [X.admits.platform]).trans hl
  have Y := vx_rebase X (R' := { frames := R.frames, locals := R.locals, cells := 1, slots := 6 }) (Nat.le_refl _) (Nat.le_refl _) hRcells hRslots
  obtain ⟨s', hA⟩ : ∃ z, z = (T.setVm s.vm).setFrames (.invoking m args :: below) := ⟨_, rfl⟩
  rw [← hA] at Y
  have hvm : s'.vm = s.vm := by rw [hA]; rfl
  have hhp : s'.heap = H := by rw [hA]; exact hT
  have hW0 : s.WarmedH s'.vm := by rw [hvm]; exact State.WarmedH.refl s
  have hat' : ∀ w ∈ vx_atS own ic cls names, w.before args s' = true := fun w hw => vx_ot_at hW0 hvm.symm (hgood w (List.mem_cons_of_mem _ (List.mem_cons_of_mem _ hw))) (hat w hw)
  have hk' : (Cond.classLink own ik cls).before args s' = true := vx_ot_at hW0 hvm.symm (hgood _ List.mem_cons_self) hk
  have hini' : (Cond.initialized cls).before args s' = true := vx_ot_at hW0 hvm.symm (hgood _ (List.mem_cons_of_mem _ List.mem_cons_self)) hini
  have hU' : vx_Zq Bundle.tN "UNASSIGNED_STACK" Bundle.steD A s' s'.heap := by rw [hhp]; exact vx_Zq.moved hW0.alike (hU.kept hS.2.1)
  have hN' : vx_Zq Bundle.tN "SUPPRESSED_SENTINEL" Bundle.listD A s' s'.heap := by rw [hhp]; exact vx_Zq.moved hW0.alike (hN.kept hS.2.1)
  have h : ∀ w ∈ Bundle.ownAtoms own ic cls names, w.before args s' = true := vx_own hat' (vx_isRefq hU'.1) (vx_isRefq hN'.1) hU'.2.word hN'.2.word
  have hown' : s'.vm.findClass own = some m.cls := by rw [hvm]; exact hown
  have hins : (Cond.instantiable cls 6).before args s' = true := h _ (by simp [Bundle.ownAtoms])
  obtain ⟨vm₁, cX, kX, hfX, hkX, -, -, X₁, st1⟩ := Y.newCold hexec (own := own) (C := cls) (index := ik) (n := 6) hown' hk' hins hini'
    (g := F0 m pc ls rest) rfl (by rw [hb]; exact d0) (Nat.le_refl _) (Nat.le_refl _)
  generalize hT1 : (T.setVm vm₁).pushCell { cls := cX, slots := kX.instanceTypes.map defaultValue, vm := .none } = T1 at X₁ st1
  have hcat : (Value.ref T.heap.size).category = 1 := rfl
  have hcellA : T1.heap[T.heap.size]? = some (freshCell cX kX) := by rw [← hT1]; exact State.heap_pushCell_size _ _
  have d3' : decode c.code (pc + 3) = .ok (.dup, 1) := by rw [hb]; exact d3
  have d4' : decode c.code (pc + 4) = .ok (.ldc is, 2) := by rw [hb]; exact d4
  have hstr' : vk_R own is text sa s' := vk_R.warm hW0 hstr
  obtain ⟨U, hsteps, hrun, hend, hW, hsame, ce, hce, hO⟩ := X₁.ctorThrowS hexec htr (own := own) (cls := cls) (names := names) (ic := ic) hown' hcls hnames h (fun x hx => nomatch hx) hfX hkX hcellA (by rw [hhp, hT]; exact Nat.le_refl _) (msg := .ref sa) rfl
    (g := { method := m, pc := pc + 6, locals := ls, stack := .ref sa :: .ref T.heap.size :: .ref T.heap.size :: rest, locked := none }) rfl hsize rfl rfl (rest := rest) rfl
    (by rw [hb]; exact d6) (by rw [hb]; exact d9) hout hRframes (by simp only [List.map_cons, List.sum_cons, hcat]; omega) hlocks
  obtain ⟨f1, f2⟩ := vx_frame hsame
  rw [hhp] at f1 f2
  have hWs : s.WarmedH U.vm := State.WarmedH.trans hW0 hW
  have hcl : s.vm.findClass cls = some ce.cls := by
    have h9 := hO.cls
    rw [hvm] at h9
    exact h9
  have hall : s.sameButNew ({ U with vm := s.vm } : State) locs mc ms := by
    subst hA
    obtain ⟨e1, e2⟩ := hsame
    rw [State.setFrames_setFrames] at e1
    have h2 : (T.setVm s.vm).sameButNew ({ U with vm := s.vm } : State) [] (0 + 1) (0 + 6) := ⟨e1, e2⟩
    have h3 := X.same.trans h2
    rw [List.append_nil] at h3
    exact h3.mono hc hs
  refine ⟨U, ?_, .threw T.heap.size, hrun, hend, Or.inr ⟨T.heap.size, rfl, cls, ce, locs, hx U hWs.alike f1 (fun q hq => f2 q hq (fun z hz => nomatch hz)), hce, hO.vm, hcl, hWs, hall, hf⟩⟩
  refine st1 _ ?_
  show Steps p.tables e below (T1.setTop { method := m, pc := pc + 3, locals := ls, stack := .ref T.heap.size :: rest, locked := none }) _
  jvm_step X₁.here [X₁.here.top, hexec, d3', Value.category]
  exact X₁.ldcString hexec (own := own) (text := text) (index := is) (a := sa) hown' hstr'.1 hstr'.2
    (g := { method := m, pc := pc + 4, locals := ls, stack := .ref T.heap.size :: .ref T.heap.size :: rest, locked := none }) rfl d4' _ hsteps
/-- 'throw new E("text")', the text by a wide index -/
theorem vx_throwSW {cc : ByteArray} {pc : Nat} (hexec : p.tables.exec = Jvm.exec) (hb : c.code = cc) (hl : l.stackTraces = false) {own cls text : String} {names : List String} {ik is ic mc ms sa : Nat} {A : Nat → Prop}
    (hown : s.vm.findClass own = some m.cls) (hcls : Bundle.fit cls = true) (hnames : ∀ n ∈ names, Bundle.fit n = true)
    (hk : (Cond.classLink own ik cls).before args s = true) (hini : (Cond.initialized cls).before args s = true) (hstr : vk_R own is text sa s) (hat : ∀ w ∈ vx_atS own ic cls names, w.before args s = true)
    (hgood : ∀ w ∈ Cond.classLink own ik cls :: Cond.initialized cls :: vx_atS own ic cls names, vx_ot w = true)
    (hU : vx_Zq Bundle.tN "UNASSIGNED_STACK" Bundle.steD A s s.heap) (hN : vx_Zq Bundle.tN "SUPPRESSED_SENTINEL" Bundle.listD A s s.heap) (hS : va_S A s.heap H locs) (hsize : ls.size = c.maxLocals)
    (d0 : decode cc pc = .ok (.new ik, 3)) (d3 : decode cc (pc + 3) = .ok (.dup, 1)) (d4 : decode cc (pc + 4) = .ok (.ldc_w is, 3)) (d7 : decode cc (pc + 7) = .ok (.invokespecial ic, 3)) (d10 : decode cc (pc + 10) = .ok (.athrow, 1))
    (hout : ∀ x ∈ c.exceptionTable.toList, covers x (pc + 10) = false)
    (hRframes : names.length + 3 < R.frames) (hRlocals : (rest.map fun v => v.category).sum + (13 * (names.length + 1) + 43) ≤ R.locals) (hRcells : cells + 1 ≤ R.cells) (hRslots : slots + 6 ≤ R.slots) (hlocks : meth.locks = false)
    (hx : ∀ t : State, s.vm.Alike t.vm → H.size ≤ t.heap.size → (∀ q : Nat, q < H.size → t.heap[q]? = H[q]?) → XC cls s t)
    (hf : ∀ z ∈ locs, free z.base) (hc : cells + 1 ≤ mc) (hs : slots + 6 ≤ ms) :
    W p l e R s m args below meth c H locs cells slots (vx_MQ below Qc XC args s mc ms free) (F0 m pc ls rest) := by
  intro T hT X
  have htr : e.platform.stackTraces = false := (show e.platform.stackTraces = l.stackTraces by rw [X.admits.platform]).trans hl
  have Y := vx_rebase X (R' := { frames := R.frames, locals := R.locals, cells := 1, slots := 6 }) (Nat.le_refl _) (Nat.le_refl _) hRcells hRslots
  obtain ⟨s', hA⟩ : ∃ z, z = (T.setVm s.vm).setFrames (.invoking m args :: below) := ⟨_, rfl⟩
  rw [← hA] at Y
  have hvm : s'.vm = s.vm := by rw [hA]; rfl
  have hhp : s'.heap = H := by rw [hA]; exact hT
  have hW0 : s.WarmedH s'.vm := by rw [hvm]; exact State.WarmedH.refl s
  have hat' : ∀ w ∈ vx_atS own ic cls names, w.before args s' = true := fun w hw => vx_ot_at hW0 hvm.symm (hgood w (List.mem_cons_of_mem _ (List.mem_cons_of_mem _ hw))) (hat w hw)
  have hk' : (Cond.classLink own ik cls).before args s' = true := vx_ot_at hW0 hvm.symm (hgood _ List.mem_cons_self) hk
  have hini' : (Cond.initialized cls).before args s' = true := vx_ot_at hW0 hvm.symm (hgood _ (List.mem_cons_of_mem _ List.mem_cons_self)) hini
  have hU' : vx_Zq Bundle.tN "UNASSIGNED_STACK" Bundle.steD A s' s'.heap := by rw [hhp]; exact vx_Zq.moved hW0.alike (hU.kept hS.2.1)
  have hN' : vx_Zq Bundle.tN "SUPPRESSED_SENTINEL" Bundle.listD A s' s'.heap := by rw [hhp]; exact vx_Zq.moved hW0.alike (hN.kept hS.2.1)
  have h : ∀ w ∈ Bundle.ownAtoms own ic cls names, w.before args s' = true := vx_own hat' (vx_isRefq hU'.1) (vx_isRefq hN'.1) hU'.2.word hN'.2.word
  have hown' : s'.vm.findClass own = some m.cls := by rw [hvm]; exact hown
  have hins : (Cond.instantiable cls 6).before args s' = true := h _ (by simp [Bundle.ownAtoms])
  obtain ⟨vm₁, cX, kX, hfX, hkX, -, -, X₁, st1⟩ := Y.newCold hexec (own := own) (C := cls) (index := ik) (n := 6) hown' hk' hins hini'
    (g := F0 m pc ls rest) rfl (by rw [hb]; exact d0) (Nat.le_refl _) (Nat.le_refl _)
  generalize hT1 : (T.setVm vm₁).pushCell { cls := cX, slots := kX.instanceTypes.map defaultValue, vm := .none } = T1 at X₁ st1
  have hcat : (Value.ref T.heap.size).category = 1 := rfl
  have hcellA : T1.heap[T.heap.size]? = some (freshCell cX kX) := by rw [← hT1]; exact State.heap_pushCell_size _ _
  have d3' : decode c.code (pc + 3) = .ok (.dup, 1) := by rw [hb]; exact d3
  have d4' : decode c.code (pc + 4) = .ok (.ldc_w is, 3) := by rw [hb]; exact d4
  have hstr' : vk_R own is text sa s' := vk_R.warm hW0 hstr
  obtain ⟨U, hsteps, hrun, hend, hW, hsame, ce, hce, hO⟩ := X₁.ctorThrowS hexec htr (own := own) (cls := cls) (names := names) (ic := ic) hown' hcls hnames h (fun x hx => nomatch hx) hfX hkX hcellA (by rw [hhp, hT]; exact Nat.le_refl _) (msg := .ref sa) rfl
    (g := { method := m, pc := pc + 7, locals := ls, stack := .ref sa :: .ref T.heap.size :: .ref T.heap.size :: rest, locked := none }) rfl hsize rfl rfl (rest := rest) rfl
    (by rw [hb]; exact d7) (by rw [hb]; exact d10) hout hRframes (by simp only [List.map_cons, List.sum_cons, hcat]; omega) hlocks
  obtain ⟨f1, f2⟩ := vx_frame hsame
  rw [hhp] at f1 f2
  have hWs : s.WarmedH U.vm := State.WarmedH.trans hW0 hW
  have hcl : s.vm.findClass cls = some ce.cls := by
    have h9 := hO.cls
    rw [hvm] at h9
    exact h9
  have hall : s.sameButNew ({ U with vm := s.vm } : State) locs mc ms := by
    subst hA
    obtain ⟨e1, e2⟩ := hsame
    rw [State.setFrames_setFrames] at e1
    have h2 : (T.setVm s.vm).sameButNew ({ U with vm := s.vm } : State) [] (0 + 1) (0 + 6) := ⟨e1, e2⟩
    have h3 := X.same.trans h2
    rw [List.append_nil] at h3
    exact h3.mono hc hs
  refine ⟨U, ?_, .threw T.heap.size, hrun, hend, Or.inr ⟨T.heap.size, rfl, cls, ce, locs, hx U hWs.alike f1 (fun q hq => f2 q hq (fun z hz => nomatch hz)), hce, hO.vm, hcl, hWs, hall, hf⟩⟩
  refine st1 _ ?_
  show Steps p.tables e below (T1.setTop { method := m, pc := pc + 3, locals := ls, stack := .ref T.heap.size :: rest, locked := none }) _
  jvm_step X₁.here [X₁.here.top, hexec, d3', Value.category]
  exact X₁.ldcStringW hexec (own := own) (text := text) (index := is) (a := sa) hown' hstr'.1 hstr'.2
    (g := { method := m, pc := pc + 4, locals := ls, stack := .ref T.heap.size :: .ref T.heap.size :: rest, locked := none }) rfl d4' _ hsteps
end Ends
section Bodies
variable {l : Launch}
theorem vx_ofW {y : MethodName} {ws ws' : List Cond} {rm : Room} {Pc : Array Value → State → Prop} {Qc : Array Value → State → Outcome → State → Prop} {XC : String → State → State → Prop} {mc ms : Nat} {free : Addr → Prop} {cc : ByteArray} {maxL : Nat} {ret : Option FieldType}
    (hy : plainName y.cls = true) (hw : ws = Cond.code y cc maxL ret :: ws')
    (body : ∀ p e s m args below meth c s₁, BodyLoose p l y (headSpec ws rm) cc maxL ret e s m args below meth c s₁ → c.maxLocals = maxL → (∀ x ∈ c.exceptionTable.toList, False) → Pc args s →
      W p l e (headSpec ws rm).room s m args below meth c s.heap [] 0 0 (vx_MQ below Qc XC args s mc ms free) (entryFrame m args maxL)) : vx_Met l y ws rm Pc Qc XC mc ms free := by
  refine MetFree.of_bodyS (code := cc) (maxLocals := maxL) (ret := ret) hy ?_ ?_
  · intro args s m h hn
    obtain ⟨meth, c, h1, h2, h3, h4, h5, h6, -, -⟩ := Cond.code_spec hn (atoms_spec (ws := ws) h _ (by rw [hw]; exact List.mem_cons_self))
    exact ⟨meth, c, h1, h2, h3, h4, h5, h6⟩
  · intro p e s m args below meth c s₁ B hml hP _
    have hh0 : s₁.heap = s.heap := by rw [B.state]; rfl
    have ht : ∀ x ∈ c.exceptionTable.toList, False := by
      obtain ⟨meth9, c9, h1, h2, -, -, -, -, h7, -⟩ := Cond.code_spec B.named (atoms_spec (ws := ws) B.pre _ (by rw [hw]; exact List.mem_cons_self))
      cases Option.some.inj (h1.symm.trans B.method)
      cases Option.some.inj (h2.symm.trans (Stand.of_body B).code)
      intro x hx
      rw [Array.isEmpty_iff.mp h7] at hx
      cases hx
    obtain ⟨t, a1, o, b1, b2, b3⟩ := body p e s m args below meth c s₁ B hml ht hP s₁ hh0 (Stand.of_body B)
    exact ⟨t, o, a1, b1, b2, b3⟩
/-- the table of a body with handlers -/
theorem vx_table {p : Program} {x y : MethodName} {S : Spec} {cc bytes : ByteArray} {maxL maxL' : Nat} {ret ret' : Option FieldType} {e : Env} {s s₁ : State} {m : MethodId} {args : Array Value} {below : List Frame} {meth : Method} {c : Code} {hh : List (Nat × Nat × Nat × Nat)}
    (B : BodyLoose p l y S cc maxL ret e s m args below meth c s₁) (h : (Cond.codeWith y bytes maxL' ret' hh).before args s = true) : c.exceptionTable.toList = tableOf hh := by
  obtain ⟨m9, meth9, c9, hn9, h1, h2, -, -, h6, -⟩ := Cond.codeWith_spec h
  cases Option.some.inj (hn9.symm.trans B.named)
  cases Option.some.inj (h1.symm.trans B.method)
  cases Option.some.inj (h2.symm.trans (Stand.of_body B).code)
  rw [← h6, table_eq]
end Bodies
end VXA
/-! ===== END ===== -/
/-! ===== BEGIN a static call of a method with an exception table ===== -/
section VXS
variable {p : Program} {l : Launch} {e : Env} {R : Room} {s : State} {m : MethodId} {args : Array Value} {below : List Frame} {meth : Method} {c : Code} {T : State} {H : Heap} {locs : List Loc} {cells slots : Nat}
abbrev vx_CSW (R : Room) (s : State) (args : Array Value) (own : String) (index : Nat) (y : MethodName) (bytes : ByteArray) (maxL : Nat) (ret : Option FieldType) (hh : List (Nat × Nat × Nat × Nat)) (ws : List Cond) (rm : Room) (mc ms n : Nat) : Prop :=
  (rm.cells = mc ∧ rm.slots = ms ∧ rm.frames + 1 ≤ R.frames ∧ 8 + (maxL + 11) + rm.locals ≤ R.locals ∧ (∀ w ∈ ws, ∀ (a' : Array Value) (U : State), s.WarmedH U.vm → w.before a' U = true) ∧ Cond.codeWith y bytes maxL ret hh ∈ ws) ∧
  (Cond.codeWith y bytes maxL ret hh).before args s = true ∧ (Cond.initialized y.cls).before args s = true ∧ (y.cls ≠ "java/lang/invoke/MethodHandle" ∧ y.cls ≠ "java/lang/invoke/VarHandle") ∧
  (∀ sig, parseMethodDescriptor y.desc = some sig → n = sig.parameters.length) ∧ (Cond.methodLink own index y).before args s = true ∧ (Cond.static y).before args s = true
theorem vx_cwSW {own : String} {index maxL mc ms : Nat} {y : MethodName} {bytes : ByteArray} {ret : Option FieldType} {hh : List (Nat × Nat × Nat × Nat)} {Ts ws ws' : List Cond} {rm : Room} (n : Nat) (ht : ∀ w ∈ Ts, w.before args s = true) (hT : GoodIn Ts (va_wsS own index y ws)) (hw : ws = Cond.codeWith y bytes maxL ret hh :: ws') (hrc : rm.cells = mc) (hrs : rm.slots = ms)
    (hd : y.cls ≠ "java/lang/invoke/MethodHandle" ∧ y.cls ≠ "java/lang/invoke/VarHandle" ∧ (parseMethodDescriptor y.desc).map (fun d => d.parameters.length) = some n) (hR : rm.frames + 1 ≤ R.frames ∧ 8 + (maxL + 11) + rm.locals ≤ R.locals) :
    vx_CSW R s args own index y bytes maxL ret hh ws rm mc ms n := by
  have ok : ∀ w ∈ va_wsS own index y ws, w.before args s = true := fun w h => ht w (hT w h).1
  have hG : GoodIn Ts ws := fun w h => hT w (by unfold va_wsS; exact List.mem_append_right _ h)
  have hc : Cond.codeWith y bytes maxL ret hh ∈ ws := by rw [hw]; exact List.mem_cons_self
  refine ⟨⟨hrc, hrs, hR.1, hR.2, pay_in ht hG, hc⟩, ht _ (hG _ hc).1, ok _ (by simp [va_wsS]), ⟨hd.1, hd.2.1⟩, fun sig h => ?_, ok _ (by simp [va_wsS]), ok _ (by simp [va_wsS])⟩
  have h2 := hd.2.2
  rw [h] at h2
  exact (Option.some.inj h2).symm
theorem vx_callSW (X : Stand p l e R s m args below meth c T locs cells slots) (hexec : p.tables.exec = Jvm.exec) {own : String} {index : Nat} {y : MethodName} {bytes : ByteArray} {maxL : Nat} {ret : Option FieldType} {hh : List (Nat × Nat × Nat × Nat)}
    (hown : s.vm.findClass own = some m.cls) (hlink : (Cond.methodLink own index y).before args s = true) (hstat : (Cond.static y).before args s = true) (hinit : (Cond.initialized y.cls).before args s = true)
    (hcode : (Cond.codeWith y bytes maxL ret hh).before args s = true) (hy : y.cls ≠ "java/lang/invoke/MethodHandle" ∧ y.cls ≠ "java/lang/invoke/VarHandle")
    {W9 : Nat} {Pre : Pt → Array Value → Prop} {Post : Pt → Array Value → Option Value → Pt → Prop} (hK : Back l R p e below s args y 3 W9 Pre Post)
    {g : JFrame} (hg : g.method = m) (hsize : g.locals.size = c.maxLocals) {argsL rest : List Value} (hlen : ∀ sig, parseMethodDescriptor y.desc = some sig → argsL.length = sig.parameters.length)
    (hstack : g.stack = argsL.reverse ++ rest) (hW : 2 * g.monitorRoom + (rest.map fun v => v.category).sum ≤ W9) (hdg : decode c.code g.pc = .ok (.invokestatic index, 3))
    (hpre : ∀ vm₁, s.WarmedH vm₁ → Pre ⟨T.setVm vm₁, locs, cells, slots⟩ argsL.toArray) :
    ∃ (v : Option Value) (vm₁ : Vm) (B : Pt), s.WarmedH vm₁ ∧ Stand p l e R s m args below meth c B.U B.locs B.cells B.slots ∧ Post ⟨T.setVm vm₁, locs, cells, slots⟩ argsL.toArray v B ∧
      ∀ target, Steps p.tables e below (B.U.setTop { g with pc := g.pc + 3, stack := v.toList ++ rest }) target → Steps p.tables e below (T.setTop g) target := by
  obtain ⟨mk, methM, cM, hnamed, hmethM, -, -, -, -, -, -, hsigM⟩ := Cond.codeWith_spec hcode
  have hstatic : methM.isStatic = true := Cond.static_spec hnamed hmethM hstat
  obtain ⟨kP, hkP, -⟩ := className_of_methodNamed hnamed
  have hinitP : kP.init = .initialized := Cond.initialized_spec (findClass_of_methodNamed hnamed) hkP hinit
  obtain ⟨vm₁, X₁, hstep₁⟩ := X.invokestatic hexec hown hlink hnamed hmethM hstatic hkP hinitP hy (g := g) hg (argsL := argsL) (rest := rest) (hlen _ hsigM) hstack hdg
  obtain ⟨v, B, X', hpost, hsteps⟩ := hK m meth c ⟨T.setVm vm₁, locs, cells, slots⟩ { g with stack := rest } (.invokestatic index) mk argsL.toArray X₁ hg hsize hdg hW (X₁.named hnamed) (hpre vm₁ X₁.warmed)
  exact ⟨v, vm₁, B, X₁.warmed, X', hpost, fun target h => hstep₁ _ fun acts => by rw [doInvoke_state]; exact hsteps.trans h⟩
theorem vx_runSW {y : MethodName} {bytes cc : ByteArray} {maxL nL mc ms n index : Nat} {ret : Option FieldType} {hh : List (Nat × Nat × Nat × Nat)} {ws : List Cond} {rm : Room} {Pc : Array Value → State → Prop} {Qc : Array Value → State → Outcome → State → Prop} {free : Addr → Prop} {Ts : List Cond} {own : String} {As rest : List Value} {g : JFrame}
    (S : CallFix p m c cc nL s args Ts own) (hM : Met l y ws rm Pc Qc mc ms free) (cw : vx_CSW R s args own index y bytes maxL ret hh ws rm mc ms n) (hp : PreS s H Pc As)
    (hg : g.method = m) (hn : As.length = n) (hsize : g.locals.size = nL) (hstack : g.stack = As.reverse ++ rest) (hW : 2 * g.monitorRoom + (rest.map fun v => v.category).sum ≤ 8) (hdg : decode cc g.pc = .ok (.invokestatic index, 3)) (hf : cells + mc ≤ R.cells ∧ slots + ms ≤ R.slots) :
    va_Run p l e R s m args below meth c H locs cells slots mc ms g rest (Qc As.toArray) (free) := by
  obtain ⟨⟨hrc, hrs, hfr, hlo, hws, hcw⟩, hcode, hini, hy, hlen, hl, hstt⟩ := cw
  have hK : Back l R p e below s args y 3 8 (PreOf R mc ms Pc) (PostOf Qc mc ms free) := va_backW (hh := hh) (bytes := bytes) (maxL := maxL) (ret := ret) hM hp.1 hrc hrs hfr hlo hws hcw (fun a' U hW => word_at hW (Or.inl (by first | rfl | simp [Cond.onTables, Cond.keeps, Cond.steady])) hini)
  obtain ⟨hx, hb, hml, ho, -⟩ := S
  intro T hT X
  obtain ⟨v, vm₁, ⟨U', l2, c2, s2⟩, hW₁, X', ⟨g', mk, t, L, e1, e2, hq, h1, hL, h2, h3⟩, st⟩ := vx_callSW X hx (hh := hh) (bytes := bytes) (maxL := maxL) (ret := ret) ho hl hstt hini hcode hy hK hg (hsize.trans hml.symm) (argsL := As) (rest := rest) (fun sig h => hn.trans (hlen sig h)) hstack hW (by rw [hb]; exact hdg)
    (fun vm₁ hW₁ => ⟨hf.1, hf.2, hp.2 (T.setVm vm₁) hT hW₁⟩)
  dsimp only [Pt.U, Pt.locs, Pt.cells, Pt.slots] at X' e1 e2 h1 h2 h3 st
  subst h1; subst h2; subst h3
  exact ⟨v, (T.setVm vm₁).calling g' mk As.toArray, t, U', L, hT, X', hL, e1, e2, hq, st⟩
/-- not caught here, past rows that name other classes: it goes on to the caller -/
theorem vx_outP {p : Program} {l : Launch} {e : Env} {R : Room} {s : State} {m : MethodId} {args : Array Value} {below : List Frame} {meth : Method} {c : Code} {H : Heap} {locs : List Loc} {cells slots : Nat} {free : Addr → Prop} {ls : Array Slot} {rest : List Value} {Qc : Array Value → State → Outcome → State → Prop} {XC : String → State → State → Prop}
    {pc : Nat} {own E : String} {ce : Cell} {q : Addr} {mc ms : Nat} (hown : s.vm.findClass own = some m.cls) (hlocks : meth.locks = false)
    (hpass : ∀ z ∈ c.exceptionTable.toList, covers z pc = false ∨ (z.catchType ≠ 0 ∧ ∃ nm : String, (Cond.classLink own z.catchType nm).before args s = true ∧ va_Nc E nm s)) (hcell : H[q]? = some ce) (hv : ce.vm = .none) (hcl : s.vm.findClass E = some ce.cls)
    (hx : ∀ t : State, t.heap = H → s.vm.Alike t.vm → XC E s t) (hf : ∀ z ∈ locs, free z.base) (hc : cells ≤ mc) (hs : slots ≤ ms) :
    vx_W p l e R s m args below meth c H locs cells slots (vx_MQ below Qc XC args s mc ms free) (F0 m pc ls rest) q := by
  intro T hT X
  have hpl : e.platform.magicAccessors = ({} : Platform).magicAccessors := by rw [X.admits.platform]
  obtain ⟨vm', hW', X', st⟩ := X.outThrough hlocks q (g := F0 m pc ls rest) rfl rfl rfl (cell := ce) (by rw [hT]; exact hcell) (by rw [hv]; rfl)
    (by obtain ⟨k9, h9, -⟩ := Vm.findClass_spec hcl; exact ⟨k9, h9⟩) (fun z hz => by
      rcases hpass z hz with h | ⟨hz0, nm, hl1, hn1⟩
      · exact Or.inl h
      · obtain ⟨c6, hc6, hcl6⟩ := Cond.classLink_spec hown hl1 e.platform hpl
        obtain ⟨a8, b8, h1, h2, h3⟩ := hn1
        cases Option.some.inj (h1.symm.trans hcl)
        cases Option.some.inj (h2.symm.trans hc6)
        exact Or.inr ⟨hz0, _, hcl6, h3⟩)
  obtain ⟨g₀, hfr⟩ := X'.frames_eq
  have hcell9 : ((T.setVm vm').setFrames (.throwing q :: below)).heap[q]? = some ce := by
    show T.heap[q]? = some ce
    rw [hT]; exact hcell
  have hend : Ended ((T.setVm vm').setFrames (.throwing q :: below)) below (.threw q) := State.frames_setFrames _ (State.cur_lt_of_frames hfr)
  refine ⟨(T.setVm vm').setFrames (.throwing q :: below), ?_, .threw q, X'.here.running, hend, Or.inr ⟨q, rfl, E, ce, locs, hx _ hT (X'.ends _).1.alike, hcell9, hv, hcl, (X'.ends _).1, (X'.ends _).2.mono hc hs, hf⟩⟩
  rw [X.pushThrowing_eq]
  exact st
/-- a thing of a world lies in the heap -/
theorem vx_lt {D : va_G} {cl : List vw_C} {ws : va_W} {H1 : Heap} (h : va_P D cl ws H1) {k : Nat} {q : Nat × va_E} (hk : ws[k]? = some q) : q.1 < H1.size := (h k q hk).lt
end VXS
/-! ===== END ===== -/
/-! ===== BEGIN methods with a table of their own: called by a name, returning or throwing ===== -/
section VXH
/-! vx_backW, vx_callVX, vx_callSX, vx_callVW, vx_runVW, vx_runVX, vx_runSX, vx_ofWH follow the same proofs as their sisters above (Free/Laws.lean, Shelf42/LK1.lean); vx_outP calls Shelf42/NT130.lean (outThrough). -/
section
variable {l : Launch} {R : Room} {p : Program} {e : Env} {below : List Frame} {s : State} {sargs : Array Value} {y : MethodName} {len W9 : Nat}
theorem vx_backW {ws : List Cond} {rm : Room} {Pc : Array Value → State → Prop} {Qc : Array Value → State → Outcome → State → Prop} {XC : String → State → State → Prop} {mc ms : Nat} {free : Addr → Prop} {bytes : ByteArray} {maxL : Nat} {ret : Option FieldType} {hh : List (Nat × Nat × Nat × Nat)}
    (hM : vx_Met l y ws rm Pc Qc XC mc ms free) (hblind : FrameBlind Pc) (hrc : rm.cells = mc) (hrs : rm.slots = ms)
    (hframes : rm.frames + 1 ≤ R.frames) (hlocals : W9 + (maxL + 11) + rm.locals ≤ R.locals)
    (hws : ∀ w ∈ ws, ∀ a' U, s.WarmedH U.vm → w.before a' U = true) (hcode : Cond.codeWith y bytes maxL ret hh ∈ ws) (hinit : ∀ a' U, s.WarmedH U.vm → (Cond.initialized y.cls).before a' U = true) :
    vx_Back l R p e below s sargs y len W9 (PreOf R mc ms Pc) (PostOf Qc mc ms free) (vx_Post XC mc ms free) := by
  intro m meth c A g ig mk a X hg hsize hdg hW hn hp
  have h1 : (headSpec ws rm).pre.before a A.U = true := atoms_intro fun w hw => hws w hw _ _ X.warmed
  have h2 : (Cond.codeWith y bytes maxL ret hh).before a A.U = true := hws _ hcode _ _ X.warmed
  have h3 : (Cond.initialized y.cls).before a A.U = true := hinit _ _ X.warmed
  have h4 : A.cells + (headSpec ws rm).room.cells ≤ R.cells := by rw [show (headSpec ws rm).room.cells = mc from hrc]; exact hp.1
  have h5 : A.slots + (headSpec ws rm).room.slots ≤ R.slots := by rw [show (headSpec ws rm).room.slots = ms from hrs]; exact hp.2.1
  have hPc : Pc a (A.U.calling g mk a) := hblind _ _ _ _ hp.2.2
  obtain ⟨U, Ls, c0, s0⟩ := A
  dsimp only [Pt.U, Pt.locs, Pt.cells, Pt.slots] at h1 h2 h3 h4 h5 X hn hPc ⊢
  obtain ⟨m9, methY, cY, hn9, hmY, hcY, -, hlY, -⟩ := Cond.codeWith_spec h2
  cases Option.some.inj (hn9.symm.trans hn)
  obtain ⟨kY, hkY, -⟩ := className_of_methodNamed hn
  have hinitY : kY.init = .initialized := Cond.initialized_spec (findClass_of_methodNamed hn) hkY h3
  have h : At U g.method c below := by rw [hg]; exact X.here
  have hlocals9 : W9 + (maxL + 11) + (headSpec ws rm).room.locals ≤ R.locals := hlocals
  have happ : (headSpec ws rm).appliesLoose y e.platform (U.calling g mk a) = true :=
    Spec.appliesLoose_calling (g := g) h hdg hn hkY hinitY
      (X.room_calling (g := g) (R' := (headSpec ws rm).room) hsize hmY hcY hframes (by rw [hlY]; omega) h4 h5) h1
  obtain ⟨mid, hmid⟩ := h.above
  have hfr : (U.setTop g).frames = (.java g :: mid) ++ below := by rw [State.frames_setTop' g h.top, hmid]; rfl
  obtain ⟨o, s₂, hsteps, -, hend, hq⟩ := Steps.callFree hM p X.admits X.cas X.clock (acts := []) hfr happ hPc trivial
  have hq' : vx_Q Qc XC mc ms free a (U.calling g mk a) o s₂ := hq
  rw [State.frames_setTop' g h.top] at hend
  obtain ⟨g₀, hg0⟩ := Option.isSome_iff_exists.mp h.top
  obtain ⟨r, hr⟩ := State.topJava?_eq_some.mp hg0
  have hr' : (({ U with heap := s₂.heap, slotsUsed := s₂.slotsUsed } : State).setVm s₂.vm).frames = .java g₀ :: r := hr
  rcases hq' with ⟨hqc, L, hfe, hL⟩ | ⟨q, rfl, E, ce, L, hx, hce, hcv, hcl, hW₂, hsm, hL⟩
  · obtain ⟨⟨v, rfl⟩, hW₂, e2, q2, q3, q4, q5, q6⟩ := id hfe
    have e3 : s₂ = ({ (U.calling g mk a).setFrames s₂.frames with heap := s₂.heap, slotsUsed := s₂.slotsUsed } : State).setVm s₂.vm := by
      have : s₂ = ({ s₂ with vm := (U.calling g mk a).vm } : State).setVm s₂.vm := rfl
      rw [e2] at this
      exact this
    obtain ⟨c₂, i₂, len₂, hc₂, hd₂, hf₂⟩ := hend
    have hW' : U.WarmedH s₂.vm := hW₂
    have hcc : c₂ = c := by
      have h1 : s₂.code? g.method = U.code? g.method := by
        rw [State.code?_eq, State.code?_eq, hW'.alike.method?]
      exact Option.some.inj (hc₂.symm.trans (h1.trans h.code))
    subst hcc
    have hlen : len₂ = len := by rw [hdg] at hd₂; cases hd₂; rfl
    subst hlen
    have hs₂ : s₂ = (({ U with heap := s₂.heap, slotsUsed := s₂.slotsUsed } : State).setVm s₂.vm).setTop { g with pc := g.pc + len₂, stack := v.toList ++ g.stack } := by
      refine e3.trans ?_
      rw [hf₂, State.calling_eq h.top, State.setFrames_setFrames, State.setTop_of_frames _ hr', hr]
      rfl
    have hsame : U.sameButNew ({ U with heap := s₂.heap, slotsUsed := s₂.slotsUsed } : State) L mc ms := by
      refine ⟨?_, q2, q3, q4, q5, q6⟩
      obtain ⟨t, ht, -⟩ := State.frames_cons hr
      show ({ U with heap := s₂.heap, slotsUsed := s₂.slotsUsed } : State) = { U.setFrames U.frames with heap := s₂.heap, slotsUsed := s₂.slotsUsed }
      rw [State.setFrames_self ht]
    subst hg
    refine Or.inl ⟨v, ⟨(({ U with heap := s₂.heap, slotsUsed := s₂.slotsUsed } : State).setVm s₂.vm), Ls ++ L, c0 + mc, s0 + ms⟩,
      ⟨X.admits, X.cas, X.clock, X.frames, X.room, X.hears, X.method, X.code, (X.here.setHeapUsed s₂.heap s₂.slotsUsed).setVm hW'.alike, X.tail, State.WarmedH.trans X.warmed hW', X.limits, X.bytes, X.same.trans (hsame.setVm s.vm)⟩,
      ⟨g, mk, s₂, L, rfl, rfl, hqc, rfl, hL, rfl, rfl⟩, ?_⟩
    show Steps p.tables e below _ ((({ U with heap := s₂.heap, slotsUsed := s₂.slotsUsed } : State).setVm s₂.vm).setTop { g with pc := g.pc + len₂, stack := v.toList ++ g.stack })
    rw [← hs₂]
    exact hsteps
  · obtain ⟨e2, q2, q3, q4, q5, q6⟩ := id hsm
    have e3 : s₂ = ({ (U.calling g mk a).setFrames s₂.frames with heap := s₂.heap, slotsUsed := s₂.slotsUsed } : State).setVm s₂.vm := by
      have : s₂ = ({ s₂ with vm := (U.calling g mk a).vm } : State).setVm s₂.vm := rfl
      rw [e2] at this
      exact this
    have hf₂ : s₂.frames = .throwing q :: .java g :: U.frames.tail := hend
    have hW' : U.WarmedH s₂.vm := hW₂
    have hs₂ : s₂ = ((({ U with heap := s₂.heap, slotsUsed := s₂.slotsUsed } : State).setVm s₂.vm).setTop g).pushFrame (.throwing q) := by
      refine e3.trans ?_
      rw [hf₂, State.calling_eq h.top, State.setFrames_setFrames, State.pushFrame, State.frames_setTop _ hr', State.setTop_of_frames _ hr', State.setFrames_setFrames, hr]
      rfl
    have hsame : U.sameButNew ({ U with heap := s₂.heap, slotsUsed := s₂.slotsUsed } : State) L mc ms := by
      refine ⟨?_, q2, q3, q4, q5, q6⟩
      obtain ⟨t, ht, -⟩ := State.frames_cons hr
      show ({ U with heap := s₂.heap, slotsUsed := s₂.slotsUsed } : State) = { U.setFrames U.frames with heap := s₂.heap, slotsUsed := s₂.slotsUsed }
      rw [State.setFrames_self ht]
    subst hg
    refine Or.inr ⟨q, ⟨(({ U with heap := s₂.heap, slotsUsed := s₂.slotsUsed } : State).setVm s₂.vm), Ls ++ L, c0 + mc, s0 + ms⟩,
      ⟨X.admits, X.cas, X.clock, X.frames, X.room, X.hears, X.method, X.code, (X.here.setHeapUsed s₂.heap s₂.slotsUsed).setVm hW'.alike, X.tail, State.WarmedH.trans X.warmed hW', X.limits, X.bytes, X.same.trans (hsame.setVm s.vm)⟩,
      ⟨g, mk, s₂, L, E, ce, rfl, rfl, hx, hce, hcv, hcl, rfl, hL, rfl, rfl⟩, ?_⟩
    show Steps p.tables e below _ (((({ U with heap := s₂.heap, slotsUsed := s₂.slotsUsed } : State).setVm s₂.vm).setTop g).pushFrame (.throwing q))
    rw [← hs₂]
    exact hsteps
end
variable {p : Program} {l : Launch} {e : Env} {R : Room} {s : State} {m : MethodId} {args : Array Value} {below : List Frame} {meth : Method} {c : Code} {T : State} {H : Heap} {locs : List Loc} {cells slots : Nat}
theorem vx_callVX (X : Stand p l e R s m args below meth c T locs cells slots) (hexec : p.tables.exec = Jvm.exec) {own C : String} {index : Nat} {y : MethodName} {bytes : ByteArray} {maxL : Nat} {ret : Option FieldType} {hh : List (Nat × Nat × Nat × Nat)}
    (hown : s.vm.findClass own = some m.cls) (hlink : (Cond.methodLink own index y).before args s = true) (hinst : (Cond.instanceMethod y).before args s = true) (hsel : (Cond.selects C y y).before args s = true)
    (hcode : (Cond.codeWith y bytes maxL ret hh).before args s = true) (hy : y.cls ≠ "java/lang/invoke/MethodHandle" ∧ y.cls ≠ "java/lang/invoke/VarHandle")
    {W9 : Nat} {Pre : Pt → Array Value → Prop} {Post : Pt → Array Value → Option Value → Pt → Prop} {PostX : Pt → Array Value → Addr → Pt → Prop} (hK : vx_Back l R p e below s args y 3 W9 Pre Post PostX)
    {b : Addr} {cellB : Cell} (hcell : T.heap[b]? = some cellB) (hobj : cellB.vm.isStatics = false) (hcls : s.vm.findClass C = some cellB.cls)
    {g : JFrame} (hg : g.method = m) (hsize : g.locals.size = c.maxLocals) {argsL rest : List Value} (hlen : ∀ sig, parseMethodDescriptor y.desc = some sig → argsL.length = sig.parameters.length)
    (hstack : g.stack = argsL.reverse ++ .ref b :: rest) (hW : 2 * g.monitorRoom + (rest.map fun v => v.category).sum ≤ W9) (hdg : decode c.code g.pc = .ok (.invokevirtual index, 3))
    (hpre : ∀ vm₁, s.WarmedH vm₁ → Pre ⟨T.setVm vm₁, locs, cells, slots⟩ (Value.ref b :: argsL).toArray) :
    (∃ (v : Option Value) (vm₁ : Vm) (B : Pt), s.WarmedH vm₁ ∧ Stand p l e R s m args below meth c B.U B.locs B.cells B.slots ∧ Post ⟨T.setVm vm₁, locs, cells, slots⟩ (Value.ref b :: argsL).toArray v B ∧
      ∀ target, Steps p.tables e below (B.U.setTop { g with pc := g.pc + 3, stack := v.toList ++ rest }) target → Steps p.tables e below (T.setTop g) target) ∨
    (∃ (q : Addr) (vm₁ : Vm) (B : Pt), s.WarmedH vm₁ ∧ Stand p l e R s m args below meth c B.U B.locs B.cells B.slots ∧ PostX ⟨T.setVm vm₁, locs, cells, slots⟩ (Value.ref b :: argsL).toArray q B ∧
      Steps p.tables e below (T.setTop g) ((B.U.setTop { g with stack := rest }).pushFrame (.throwing q))) := by
  obtain ⟨mk, methM, hnamed, hmethM, hstM, habM⟩ := Cond.instanceMethod_spec hinst
  obtain ⟨m8, methM', cM, hn8, hmethM', -, -, -, -, -, -, hsigM⟩ := Cond.codeWith_spec hcode
  cases Option.some.inj (hn8.symm.trans hnamed)
  cases hmethM.symm.trans hmethM'
  obtain ⟨c2, r2, m2, q1, q2, q3, q4, kP, hkP, hkPi⟩ := Cond.selects_spec hsel
  cases hcls.symm.trans q1
  cases (State.methodFound?_of_named hnamed hy).symm.trans q2
  cases hnamed.symm.trans q3
  have hselP : selectMethod e.platform s.vm cellB.cls mk = .method mk := by rw [Launch.admits_selectMethod X.admits]; exact q4
  obtain ⟨vm₁, X₁, hstep₁⟩ := X.invokevirtual hexec hown hlink hnamed hmethM hstM hkP hkPi hy (a := b) (cell := cellB) hcell
    (fun z h => by rw [h] at hobj; cases hobj) hselP hmethM habM hkP hkPi (g := g) hg (argsL := argsL) (rest := rest) (hlen _ hsigM) hstack hdg
  rcases hK m meth c ⟨T.setVm vm₁, locs, cells, slots⟩ { g with stack := rest } (.invokevirtual index) mk (Value.ref b :: argsL).toArray X₁ hg hsize hdg hW (X₁.named hnamed) (hpre vm₁ X₁.warmed) with ⟨v, B, X', hpost, hsteps⟩ | ⟨q, B, X', hpost, hsteps⟩
  · exact Or.inl ⟨v, vm₁, B, X₁.warmed, X', hpost, fun target h => hstep₁ _ fun acts => by rw [doInvoke_state]; exact hsteps.trans h⟩
  · exact Or.inr ⟨q, vm₁, B, X₁.warmed, X', hpost, hstep₁ _ fun acts => by rw [doInvoke_state]; exact hsteps⟩
theorem vx_callSX (X : Stand p l e R s m args below meth c T locs cells slots) (hexec : p.tables.exec = Jvm.exec) {own : String} {index : Nat} {y : MethodName} {bytes : ByteArray} {maxL : Nat} {ret : Option FieldType} {hh : List (Nat × Nat × Nat × Nat)}
    (hown : s.vm.findClass own = some m.cls) (hlink : (Cond.methodLink own index y).before args s = true) (hstat : (Cond.static y).before args s = true) (hinit : (Cond.initialized y.cls).before args s = true)
    (hcode : (Cond.codeWith y bytes maxL ret hh).before args s = true) (hy : y.cls ≠ "java/lang/invoke/MethodHandle" ∧ y.cls ≠ "java/lang/invoke/VarHandle")
    {W9 : Nat} {Pre : Pt → Array Value → Prop} {Post : Pt → Array Value → Option Value → Pt → Prop} {PostX : Pt → Array Value → Addr → Pt → Prop} (hK : vx_Back l R p e below s args y 3 W9 Pre Post PostX)
    {g : JFrame} (hg : g.method = m) (hsize : g.locals.size = c.maxLocals) {argsL rest : List Value} (hlen : ∀ sig, parseMethodDescriptor y.desc = some sig → argsL.length = sig.parameters.length)
    (hstack : g.stack = argsL.reverse ++ rest) (hW : 2 * g.monitorRoom + (rest.map fun v => v.category).sum ≤ W9) (hdg : decode c.code g.pc = .ok (.invokestatic index, 3))
    (hpre : ∀ vm₁, s.WarmedH vm₁ → Pre ⟨T.setVm vm₁, locs, cells, slots⟩ argsL.toArray) :
    (∃ (v : Option Value) (vm₁ : Vm) (B : Pt), s.WarmedH vm₁ ∧ Stand p l e R s m args below meth c B.U B.locs B.cells B.slots ∧ Post ⟨T.setVm vm₁, locs, cells, slots⟩ argsL.toArray v B ∧
      ∀ target, Steps p.tables e below (B.U.setTop { g with pc := g.pc + 3, stack := v.toList ++ rest }) target → Steps p.tables e below (T.setTop g) target) ∨
    (∃ (q : Addr) (vm₁ : Vm) (B : Pt), s.WarmedH vm₁ ∧ Stand p l e R s m args below meth c B.U B.locs B.cells B.slots ∧ PostX ⟨T.setVm vm₁, locs, cells, slots⟩ argsL.toArray q B ∧
      Steps p.tables e below (T.setTop g) ((B.U.setTop { g with stack := rest }).pushFrame (.throwing q))) := by
  obtain ⟨mk, methM, cM, hnamed, hmethM, -, -, -, -, -, -, hsigM⟩ := Cond.codeWith_spec hcode
  have hstatic : methM.isStatic = true := Cond.static_spec hnamed hmethM hstat
  obtain ⟨kP, hkP, -⟩ := className_of_methodNamed hnamed
  have hinitP : kP.init = .initialized := Cond.initialized_spec (findClass_of_methodNamed hnamed) hkP hinit
  obtain ⟨vm₁, X₁, hstep₁⟩ := X.invokestatic hexec hown hlink hnamed hmethM hstatic hkP hinitP hy (g := g) hg (argsL := argsL) (rest := rest) (hlen _ hsigM) hstack hdg
  rcases hK m meth c ⟨T.setVm vm₁, locs, cells, slots⟩ { g with stack := rest } (.invokestatic index) mk argsL.toArray X₁ hg hsize hdg hW (X₁.named hnamed) (hpre vm₁ X₁.warmed) with ⟨v, B, X', hpost, hsteps⟩ | ⟨q, B, X', hpost, hsteps⟩
  · exact Or.inl ⟨v, vm₁, B, X₁.warmed, X', hpost, fun target h => hstep₁ _ fun acts => by rw [doInvoke_state]; exact hsteps.trans h⟩
  · exact Or.inr ⟨q, vm₁, B, X₁.warmed, X', hpost, hstep₁ _ fun acts => by rw [doInvoke_state]; exact hsteps⟩
theorem vx_callVW (X : Stand p l e R s m args below meth c T locs cells slots) (hexec : p.tables.exec = Jvm.exec) {own C : String} {index : Nat} {y : MethodName} {bytes : ByteArray} {maxL : Nat} {ret : Option FieldType} {hh : List (Nat × Nat × Nat × Nat)}
    (hown : s.vm.findClass own = some m.cls) (hlink : (Cond.methodLink own index y).before args s = true) (hinst : (Cond.instanceMethod y).before args s = true) (hsel : (Cond.selects C y y).before args s = true)
    (hcode : (Cond.codeWith y bytes maxL ret hh).before args s = true) (hy : y.cls ≠ "java/lang/invoke/MethodHandle" ∧ y.cls ≠ "java/lang/invoke/VarHandle")
    {W9 : Nat} {Pre : Pt → Array Value → Prop} {Post : Pt → Array Value → Option Value → Pt → Prop} (hK : Back l R p e below s args y 3 W9 Pre Post)
    {b : Addr} {cellB : Cell} (hcell : T.heap[b]? = some cellB) (hobj : cellB.vm.isStatics = false) (hcls : s.vm.findClass C = some cellB.cls)
    {g : JFrame} (hg : g.method = m) (hsize : g.locals.size = c.maxLocals) {argsL rest : List Value} (hlen : ∀ sig, parseMethodDescriptor y.desc = some sig → argsL.length = sig.parameters.length)
    (hstack : g.stack = argsL.reverse ++ .ref b :: rest) (hW : 2 * g.monitorRoom + (rest.map fun v => v.category).sum ≤ W9) (hdg : decode c.code g.pc = .ok (.invokevirtual index, 3))
    (hpre : ∀ vm₁, s.WarmedH vm₁ → Pre ⟨T.setVm vm₁, locs, cells, slots⟩ (Value.ref b :: argsL).toArray) :
    ∃ (v : Option Value) (vm₁ : Vm) (B : Pt), s.WarmedH vm₁ ∧ Stand p l e R s m args below meth c B.U B.locs B.cells B.slots ∧ Post ⟨T.setVm vm₁, locs, cells, slots⟩ (Value.ref b :: argsL).toArray v B ∧
      ∀ target, Steps p.tables e below (B.U.setTop { g with pc := g.pc + 3, stack := v.toList ++ rest }) target → Steps p.tables e below (T.setTop g) target := by
  obtain ⟨mk, methM, hnamed, hmethM, hstM, habM⟩ := Cond.instanceMethod_spec hinst
  obtain ⟨m8, methM', cM, hn8, hmethM', -, -, -, -, -, -, hsigM⟩ := Cond.codeWith_spec hcode
  cases Option.some.inj (hn8.symm.trans hnamed)
  cases hmethM.symm.trans hmethM'
  obtain ⟨c2, r2, m2, q1, q2, q3, q4, kP, hkP, hkPi⟩ := Cond.selects_spec hsel
  cases hcls.symm.trans q1
  cases (State.methodFound?_of_named hnamed hy).symm.trans q2
  cases hnamed.symm.trans q3
  have hselP : selectMethod e.platform s.vm cellB.cls mk = .method mk := by rw [Launch.admits_selectMethod X.admits]; exact q4
  obtain ⟨vm₁, X₁, hstep₁⟩ := X.invokevirtual hexec hown hlink hnamed hmethM hstM hkP hkPi hy (a := b) (cell := cellB) hcell
    (fun z h => by rw [h] at hobj; cases hobj) hselP hmethM habM hkP hkPi (g := g) hg (argsL := argsL) (rest := rest) (hlen _ hsigM) hstack hdg
  obtain ⟨v, B, X', hpost, hsteps⟩ := hK m meth c ⟨T.setVm vm₁, locs, cells, slots⟩ { g with stack := rest } (.invokevirtual index) mk (Value.ref b :: argsL).toArray X₁ hg hsize hdg hW (X₁.named hnamed) (hpre vm₁ X₁.warmed)
  exact ⟨v, vm₁, B, X₁.warmed, X', hpost, fun target h => hstep₁ _ fun acts => by rw [doInvoke_state]; exact hsteps.trans h⟩
abbrev vx_CVW (R : Room) (s : State) (args : Array Value) (own C : String) (index : Nat) (y : MethodName) (bytes : ByteArray) (maxL : Nat) (ret : Option FieldType) (hh : List (Nat × Nat × Nat × Nat)) (ws : List Cond) (rm : Room) (mc ms n : Nat) : Prop :=
  (rm.cells = mc ∧ rm.slots = ms ∧ rm.frames + 1 ≤ R.frames ∧ 8 + (maxL + 11) + rm.locals ≤ R.locals ∧ (∀ w ∈ ws, ∀ (a' : Array Value) (U : State), s.WarmedH U.vm → w.before a' U = true) ∧ Cond.codeWith y bytes maxL ret hh ∈ ws) ∧
  (Cond.codeWith y bytes maxL ret hh).before args s = true ∧ (Cond.initialized y.cls).before args s = true ∧ (y.cls ≠ "java/lang/invoke/MethodHandle" ∧ y.cls ≠ "java/lang/invoke/VarHandle") ∧
  (∀ sig, parseMethodDescriptor y.desc = some sig → n = sig.parameters.length) ∧ (Cond.methodLink own index y).before args s = true ∧ (Cond.instanceMethod y).before args s = true ∧ (Cond.selects C y y).before args s = true
theorem vx_cwVW {own C : String} {index maxL mc ms : Nat} {y : MethodName} {bytes : ByteArray} {ret : Option FieldType} {hh : List (Nat × Nat × Nat × Nat)} {Ts ws ws' : List Cond} {rm : Room} (n : Nat) (ht : ∀ w ∈ Ts, w.before args s = true) (hT : GoodIn Ts (wsV own index C y ws)) (hw : ws = Cond.codeWith y bytes maxL ret hh :: ws') (hrc : rm.cells = mc) (hrs : rm.slots = ms)
    (hd : y.cls = C ∧ y.cls ≠ "java/lang/invoke/MethodHandle" ∧ y.cls ≠ "java/lang/invoke/VarHandle" ∧ (parseMethodDescriptor y.desc).map (fun d => d.parameters.length) = some n) (hR : rm.frames + 1 ≤ R.frames ∧ 8 + (maxL + 11) + rm.locals ≤ R.locals) :
    vx_CVW R s args own C index y bytes maxL ret hh ws rm mc ms n := by
  obtain ⟨hC, hd⟩ := hd
  subst hC
  have ok : ∀ w ∈ wsV own index y.cls y ws, w.before args s = true := fun w h => ht w (hT w h).1
  have hG : GoodIn Ts ws := fun w h => hT w (by unfold wsV; exact List.mem_append_right _ h)
  have hc : Cond.codeWith y bytes maxL ret hh ∈ ws := by rw [hw]; exact List.mem_cons_self
  refine ⟨⟨hrc, hrs, hR.1, hR.2, pay_in ht hG, hc⟩, ht _ (hG _ hc).1, ok _ (by simp [wsV]), ⟨hd.1, hd.2.1⟩, fun sig h => ?_, ok _ (by simp [wsV]), ok _ (by simp [wsV]), ok _ (by simp [wsV])⟩
  have h2 := hd.2.2
  rw [h] at h2
  exact (Option.some.inj h2).symm
theorem vx_runVW {y : MethodName} {bytes cc : ByteArray} {maxL nL mc ms n index : Nat} {ret : Option FieldType} {hh : List (Nat × Nat × Nat × Nat)} {ws : List Cond} {rm : Room} {Pc : Array Value → State → Prop} {Qc : Array Value → State → Outcome → State → Prop} {free : Addr → Prop} {Ts : List Cond} {own C : String} {b : Addr} {As rest : List Value} {g : JFrame}
    (S : CallFix p m c cc nL s args Ts own) (hM : Met l y ws rm Pc Qc mc ms free) (cw : vx_CVW R s args own C index y bytes maxL ret hh ws rm mc ms n) (hp : PreV s H C b Pc As)
    (hg : g.method = m) (hn : As.length = n) (hsize : g.locals.size = nL) (hstack : g.stack = As.reverse ++ .ref b :: rest) (hW : 2 * g.monitorRoom + (rest.map fun v => v.category).sum ≤ 8) (hdg : decode cc g.pc = .ok (.invokevirtual index, 3)) (hf : cells + mc ≤ R.cells ∧ slots + ms ≤ R.slots) :
    va_Run p l e R s m args below meth c H locs cells slots mc ms g rest (Qc (Value.ref b :: As).toArray) free := by
  obtain ⟨⟨hrc, hrs, hfr, hlo, hws, hcw⟩, hcode, hini, hy, hlen, hl, hin, hse⟩ := cw
  have hK : Back l R p e below s args y 3 8 (PreOf R mc ms Pc) (PostOf Qc mc ms free) := va_backW (hh := hh) (bytes := bytes) (maxL := maxL) (ret := ret) hM hp.1 hrc hrs hfr hlo hws hcw (fun a' U hW => word_at hW (Or.inl (by first | rfl | simp [Cond.onTables, Cond.keeps, Cond.steady])) hini)
  obtain ⟨hx, hb, hml, ho, -⟩ := S
  obtain ⟨-, ⟨cellB, hcB, hoB, hclB⟩, hPc⟩ := hp
  intro T hT X
  obtain ⟨v, vm₁, ⟨U', l2, c2, s2⟩, hW₁, X', ⟨g', mk, t, L, e1, e2, hq, h1, hL, h2, h3⟩, st⟩ := vx_callVW X hx (C := C) (hh := hh) (bytes := bytes) (maxL := maxL) (ret := ret) ho hl hin hse hcode hy hK (by rw [hT]; exact hcB) hoB hclB hg (hsize.trans hml.symm) (argsL := As) (rest := rest) (fun sig h => hn.trans (hlen sig h)) hstack hW (by rw [hb]; exact hdg)
    (fun vm₁ hW₁ => ⟨hf.1, hf.2, hPc (T.setVm vm₁) hT hW₁⟩)
  dsimp only [Pt.U, Pt.locs, Pt.cells, Pt.slots] at X' e1 e2 h1 h2 h3 st
  subst h1; subst h2; subst h3
  exact ⟨v, (T.setVm vm₁).calling g' mk (Value.ref b :: As).toArray, t, U', L, hT, X', hL, e1, e2, hq, st⟩
section
variable {y : MethodName} {bytes cc : ByteArray} {maxL nL mc ms n index : Nat} {ret : Option FieldType} {ws : List Cond} {rm : Room} {Pc : Array Value → State → Prop} {Qc : Array Value → State → Outcome → State → Prop} {XC : String → State → State → Prop} {free : Addr → Prop} {Ts : List Cond} {own C : String} {b : Addr} {As rest : List Value} {g : JFrame}
theorem vx_runVX {hh : List (Nat × Nat × Nat × Nat)} (S : CallFix p m c cc nL s args Ts own) (hM : vx_Met l y ws rm Pc Qc XC mc ms free) (cw : vx_CVW R s args own C index y bytes maxL ret hh ws rm mc ms n) (hp : PreV s H C b Pc As)
    (hg : g.method = m) (hn : As.length = n) (hsize : g.locals.size = nL) (hstack : g.stack = As.reverse ++ .ref b :: rest) (hW : 2 * g.monitorRoom + (rest.map fun v => v.category).sum ≤ 8) (hdg : decode cc g.pc = .ok (.invokevirtual index, 3)) (hf : cells + mc ≤ R.cells ∧ slots + ms ≤ R.slots) :
    vx_Run p l e R s m args below meth c H locs cells slots mc ms g rest (Qc (Value.ref b :: As).toArray) XC free := by
  obtain ⟨⟨hrc, hrs, hfr, hlo, hws, hcw⟩, hcode, hini, hy, hlen, hl, hin, hse⟩ := cw
  have hK : vx_Back l R p e below s args y 3 8 (PreOf R mc ms Pc) (PostOf Qc mc ms free) (vx_Post XC mc ms free) := vx_backW (hh := hh) (bytes := bytes) (maxL := maxL) (ret := ret) hM hp.1 hrc hrs hfr hlo hws hcw (fun a' U hW => word_at hW (Or.inl (by first | rfl | simp [Cond.onTables, Cond.keeps, Cond.steady])) hini)
  obtain ⟨hx, hb, hml, ho, -⟩ := S
  obtain ⟨-, ⟨cellB, hcB, hoB, hclB⟩, hPc⟩ := hp
  intro T hT X
  rcases vx_callVX X hx (C := C) (hh := hh) (bytes := bytes) (maxL := maxL) (ret := ret) ho hl hin hse hcode hy hK (by rw [hT]; exact hcB) hoB hclB hg (hsize.trans hml.symm) (argsL := As) (rest := rest) (fun sig h => hn.trans (hlen sig h)) hstack hW (by rw [hb]; exact hdg)
    (fun vm₁ hW₁ => ⟨hf.1, hf.2, hPc (T.setVm vm₁) hT hW₁⟩) with ⟨v, vm₁, ⟨U', l2, c2, s2⟩, hW₁, X', ⟨g', mk, t, L, e1, e2, hq, h1, hL, h2, h3⟩, st⟩ | ⟨q, vm₁, ⟨U', l2, c2, s2⟩, hW₁, X', ⟨g', mk, t, L, E, ce, e1, e2, hq, hce, hcv, hcl, h1, hL, h2, h3⟩, st⟩
  · dsimp only [Pt.U, Pt.locs, Pt.cells, Pt.slots] at X' e1 e2 h1 h2 h3 st
    subst h1; subst h2; subst h3
    exact Or.inl ⟨v, (T.setVm vm₁).calling g' mk (Value.ref b :: As).toArray, t, U', L, hT, X', hL, e1, e2, hq, st⟩
  · dsimp only [Pt.U, Pt.locs, Pt.cells, Pt.slots] at X' e1 e2 h1 h2 h3 st hcl
    subst h1; subst h2; subst h3
    exact Or.inr ⟨q, (T.setVm vm₁).calling g' mk (Value.ref b :: As).toArray, t, U', L, E, ce, hT, X', hL, e1, e2, hq, hce, hcv, vx_cls hW₁ hcl, st⟩
theorem vx_runSX {hh : List (Nat × Nat × Nat × Nat)} (S : CallFix p m c cc nL s args Ts own) (hM : vx_Met l y ws rm Pc Qc XC mc ms free) (cw : vx_CSW R s args own index y bytes maxL ret hh ws rm mc ms n) (hp : PreS s H Pc As)
    (hg : g.method = m) (hn : As.length = n) (hsize : g.locals.size = nL) (hstack : g.stack = As.reverse ++ rest) (hW : 2 * g.monitorRoom + (rest.map fun v => v.category).sum ≤ 8) (hdg : decode cc g.pc = .ok (.invokestatic index, 3)) (hf : cells + mc ≤ R.cells ∧ slots + ms ≤ R.slots) :
    vx_Run p l e R s m args below meth c H locs cells slots mc ms g rest (Qc As.toArray) XC free := by
  obtain ⟨⟨hrc, hrs, hfr, hlo, hws, hcw⟩, hcode, hini, hy, hlen, hl, hstt⟩ := cw
  have hK : vx_Back l R p e below s args y 3 8 (PreOf R mc ms Pc) (PostOf Qc mc ms free) (vx_Post XC mc ms free) := vx_backW (hh := hh) (bytes := bytes) (maxL := maxL) (ret := ret) hM hp.1 hrc hrs hfr hlo hws hcw (fun a' U hW => word_at hW (Or.inl (by first | rfl | simp [Cond.onTables, Cond.keeps, Cond.steady])) hini)
  obtain ⟨hx, hb, hml, ho, -⟩ := S
  intro T hT X
  rcases vx_callSX X hx (hh := hh) (bytes := bytes) (maxL := maxL) (ret := ret) ho hl hstt hini hcode hy hK hg (hsize.trans hml.symm) (argsL := As) (rest := rest) (fun sig h => hn.trans (hlen sig h)) hstack hW (by rw [hb]; exact hdg)
    (fun vm₁ hW₁ => ⟨hf.1, hf.2, hp.2 (T.setVm vm₁) hT hW₁⟩) with ⟨v, vm₁, ⟨U', l2, c2, s2⟩, hW₁, X', ⟨g', mk, t, L, e1, e2, hq, h1, hL, h2, h3⟩, st⟩ | ⟨q, vm₁, ⟨U', l2, c2, s2⟩, hW₁, X', ⟨g', mk, t, L, E, ce, e1, e2, hq, hce, hcv, hcl, h1, hL, h2, h3⟩, st⟩
  · dsimp only [Pt.U, Pt.locs, Pt.cells, Pt.slots] at X' e1 e2 h1 h2 h3 st
    subst h1; subst h2; subst h3
    exact Or.inl ⟨v, (T.setVm vm₁).calling g' mk As.toArray, t, U', L, hT, X', hL, e1, e2, hq, st⟩
  · dsimp only [Pt.U, Pt.locs, Pt.cells, Pt.slots] at X' e1 e2 h1 h2 h3 st hcl
    subst h1; subst h2; subst h3
    exact Or.inr ⟨q, (T.setVm vm₁).calling g' mk As.toArray, t, U', L, E, ce, hT, X', hL, e1, e2, hq, hce, hcv, vx_cls hW₁ hcl, st⟩
end
end VXH
theorem vx_ofWH {l : Launch} {y : MethodName} {ws ws' : List Cond} {rm : Room} {Pc : Array Value → State → Prop} {Qc : Array Value → State → Outcome → State → Prop} {XC : String → State → State → Prop} {mc ms : Nat} {free : Addr → Prop} {cc : ByteArray} {maxL : Nat} {ret : Option FieldType} {hh : List (Nat × Nat × Nat × Nat)}
    (hy : plainName y.cls = true) (hw : ws = Cond.codeWith y cc maxL ret hh :: ws')
    (body : ∀ p e s m args below meth c s₁, BodyLoose p l y (headSpec ws rm) cc maxL ret e s m args below meth c s₁ → c.maxLocals = maxL → Pc args s →
      W p l e (headSpec ws rm).room s m args below meth c s.heap [] 0 0 (vx_MQ below Qc XC args s mc ms free) (entryFrame m args maxL)) : vx_Met l y ws rm Pc Qc XC mc ms free := by
  refine MetFree.of_bodyS (code := cc) (maxLocals := maxL) (ret := ret) hy ?_ ?_
  · intro args s m h hn
    obtain ⟨m9, meth, c, hn9, h1, h2, h3, h4, -, h5, h6, -⟩ := Cond.codeWith_spec (atoms_spec (ws := ws) h _ (by rw [hw]; exact List.mem_cons_self))
    cases hn.symm.trans hn9
    exact ⟨meth, c, h1, h2, h3, h4, h5, h6⟩
  · intro p e s m args below meth c s₁ B hml hP _
    have hh0 : s₁.heap = s.heap := by rw [B.state]; rfl
    obtain ⟨t, a1, o, b1, b2, b3⟩ := body p e s m args below meth c s₁ B hml hP s₁ hh0 (Stand.of_body B)
    exact ⟨t, o, a1, b1, b2, b3⟩
/-! ===== END ===== -/
end
section
/-! ===== BEGIN printed: names, fields, word lists, decode rows ===== -/
def RX0 : String := "TrunkYards$History"
def TX0 : u_T := fun k => match k with
  | 0 => ("TrunkYards$History", "from", "[I", true)
  | 1 => ("TrunkYards$History", "to", "[I", true)
  | 2 => ("TrunkYards$History", "many", "[I", true)
  | _ => ("TrunkYards$History", "noted", "I", false)
def tyX0 : Nat → FieldType := fun k => match k with
  | 0 => .array .int
  | 1 => .array .int
  | 2 => .array .int
  | _ => .int
abbrev wsX00 : List Cond := u_ws RX0 TX0 4
theorem nmX0 : ∀ a, a < 4 → ∀ b, b < 4 → a ≠ b → (TX0 a).2.1 ≠ (TX0 b).2.1 := by decide +kernel
theorem tyX0_ok : ∀ k, k < 4 → parseFieldDescriptor (TX0 k).2.2.1 = some (tyX0 k) := by decide +kernel
abbrev cX0_init : ByteArray := prog_2_method_1_code
def yX0_init : MethodName := ⟨RX0, "<init>", "()V"⟩
abbrev cX0_notePlacing : ByteArray := prog_2_method_2_code
def yX0_notePlacing : MethodName := ⟨RX0, "notePlacing", "(II)V"⟩
abbrev cX0_noteMove : ByteArray := prog_2_method_3_code
def yX0_noteMove : MethodName := ⟨RX0, "noteMove", "(III)V"⟩
abbrev cX0_replay : ByteArray := prog_2_method_4_code
def yX0_replay : MethodName := ⟨RX0, "replay", "(LTrunkYards$Rows;)V"⟩
def RX1 : String := "TrunkYards$Ledger"
def TX1 : u_T := fun k => match k with
  | 0 => ("TrunkYards$Ledger", "customers", "[I", true)
  | 1 => ("TrunkYards$Ledger", "yards", "[I", true)
  | 2 => ("TrunkYards$Ledger", "grains", "[I", true)
  | 3 => ("TrunkYards$Ledger", "standings", "[I", true)
  | 4 => ("TrunkYards$Ledger", "lapseTicks", "[I", true)
  | 5 => ("TrunkYards$Ledger", "sizes", "[I", true)
  | 6 => ("TrunkYards$Ledger", "booked", "[I", true)
  | 7 => ("TrunkYards$Ledger", "bookingOfWagon", "[I", true)
  | _ => ("TrunkYards$Ledger", "count", "I", false)
def tyX1 : Nat → FieldType := fun k => match k with
  | 0 => .array .int
  | 1 => .array .int
  | 2 => .array .int
  | 3 => .array .int
  | 4 => .array .int
  | 5 => .array .int
  | 6 => .array .int
  | 7 => .array .int
  | _ => .int
abbrev wsX10 : List Cond := u_ws RX1 TX1 9
theorem nmX1 : ∀ a, a < 9 → ∀ b, b < 9 → a ≠ b → (TX1 a).2.1 ≠ (TX1 b).2.1 := by decide +kernel
theorem tyX1_ok : ∀ k, k < 9 → parseFieldDescriptor (TX1 k).2.2.1 = some (tyX1 k) := by decide +kernel
abbrev cX1_init : ByteArray := prog_3_method_1_code
def yX1_init : MethodName := ⟨RX1, "<init>", "()V"⟩
abbrev cX1_opened : ByteArray := prog_3_method_2_code
def yX1_opened : MethodName := ⟨RX1, "opened", "()I"⟩
abbrev cX1_isFull : ByteArray := prog_3_method_3_code
def yX1_isFull : MethodName := ⟨RX1, "isFull", "()Z"⟩
abbrev cX1_customer : ByteArray := prog_3_method_4_code
def yX1_customer : MethodName := ⟨RX1, "customer", "(I)I"⟩
abbrev cX1_yard : ByteArray := prog_3_method_5_code
def yX1_yard : MethodName := ⟨RX1, "yard", "(I)I"⟩
abbrev cX1_grain : ByteArray := prog_3_method_6_code
def yX1_grain : MethodName := ⟨RX1, "grain", "(I)I"⟩
abbrev cX1_standing : ByteArray := prog_3_method_7_code
def yX1_standing : MethodName := ⟨RX1, "standing", "(I)I"⟩
abbrev cX1_lapseTick : ByteArray := prog_3_method_8_code
def yX1_lapseTick : MethodName := ⟨RX1, "lapseTick", "(I)I"⟩
abbrev cX1_size : ByteArray := prog_3_method_9_code
def yX1_size : MethodName := ⟨RX1, "size", "(I)I"⟩
abbrev cX1_get : ByteArray := prog_3_method_10_code
def yX1_get : MethodName := ⟨RX1, "get", "(II)I"⟩
abbrev cX1_bookingFor : ByteArray := prog_3_method_11_code
def yX1_bookingFor : MethodName := ⟨RX1, "bookingFor", "(I)I"⟩
abbrev cX1_open : ByteArray := prog_3_method_12_code
def yX1_open : MethodName := ⟨RX1, "open", "(III)I"⟩
abbrev cX1_add : ByteArray := prog_3_method_13_code
def yX1_add : MethodName := ⟨RX1, "add", "(II)V"⟩
abbrev cX1_keep : ByteArray := prog_3_method_14_code
def yX1_keep : MethodName := ⟨RX1, "keep", "(II)V"⟩
abbrev cX1_halve : ByteArray := prog_3_method_15_code
def yX1_halve : MethodName := ⟨RX1, "halve", "(II)V"⟩
abbrev cX1_release : ByteArray := prog_3_method_16_code
def yX1_release : MethodName := ⟨RX1, "release", "(II)V"⟩
abbrev cX1_lapseAll : ByteArray := prog_3_method_17_code
def yX1_lapseAll : MethodName := ⟨RX1, "lapseAll", "(I)I"⟩
def RX2 : String := "TrunkYards$Rows"
def TX2 : u_T := fun k => match k with
  | 0 => ("TrunkYards$Rows", "counts", "[I", true)
  | _ => ("TrunkYards$Rows", "standing", "[I", true)
def tyX2 : Nat → FieldType := fun k => match k with
  | 0 => .array .int
  | _ => .array .int
abbrev wsX20 : List Cond := u_ws RX2 TX2 2
theorem nmX2 : ∀ a, a < 2 → ∀ b, b < 2 → a ≠ b → (TX2 a).2.1 ≠ (TX2 b).2.1 := by decide +kernel
theorem tyX2_ok : ∀ k, k < 2 → parseFieldDescriptor (TX2 k).2.2.1 = some (tyX2 k) := by decide +kernel
abbrev cX2_init : ByteArray := prog_4_method_1_code
def yX2_init : MethodName := ⟨RX2, "<init>", "()V"⟩
abbrev cX2_count : ByteArray := prog_4_method_2_code
def yX2_count : MethodName := ⟨RX2, "count", "(I)I"⟩
abbrev cX2_get : ByteArray := prog_4_method_3_code
def yX2_get : MethodName := ⟨RX2, "get", "(II)I"⟩
abbrev cX2_hasRoom : ByteArray := prog_4_method_4_code
def yX2_hasRoom : MethodName := ⟨RX2, "hasRoom", "(II)Z"⟩
abbrev cX2_put : ByteArray := prog_4_method_5_code
def yX2_put : MethodName := ⟨RX2, "put", "(II)V"⟩
abbrev cX2_move : ByteArray := prog_4_method_6_code
def yX2_move : MethodName := ⟨RX2, "move", "(III)V"⟩
abbrev cX2_findOnTracks : ByteArray := prog_4_method_7_code
def yX2_findOnTracks : MethodName := ⟨RX2, "findOnTracks", "(I)I"⟩
abbrev cX2_clear : ByteArray := prog_4_method_8_code
def yX2_clear : MethodName := ⟨RX2, "clear", "()V"⟩
def RX3 : String := "TrunkYards$Switchboard"
def TX3 : u_T := fun k => match k with
  | 0 => ("TrunkYards$Switchboard", "customers", "[I", true)
  | 1 => ("TrunkYards$Switchboard", "yards", "[I", true)
  | 2 => ("TrunkYards$Switchboard", "openBookings", "[I", true)
  | 3 => ("TrunkYards$Switchboard", "firstTrunks", "[I", true)
  | 4 => ("TrunkYards$Switchboard", "secondTrunks", "[I", true)
  | 5 => ("TrunkYards$Switchboard", "ongoingCalls", "[I", true)
  | 6 => ("TrunkYards$Switchboard", "trunks", "[I", true)
  | 7 => ("TrunkYards$Switchboard", "lineCounts", "[I", true)
  | _ => ("TrunkYards$Switchboard", "begun", "I", false)
def tyX3 : Nat → FieldType := fun k => match k with
  | 0 => .array .int
  | 1 => .array .int
  | 2 => .array .int
  | 3 => .array .int
  | 4 => .array .int
  | 5 => .array .int
  | 6 => .array .int
  | 7 => .array .int
  | _ => .int
abbrev wsX30 : List Cond := u_ws RX3 TX3 9
theorem nmX3 : ∀ a, a < 9 → ∀ b, b < 9 → a ≠ b → (TX3 a).2.1 ≠ (TX3 b).2.1 := by decide +kernel
theorem tyX3_ok : ∀ k, k < 9 → parseFieldDescriptor (TX3 k).2.2.1 = some (tyX3 k) := by decide +kernel
abbrev cX3_init : ByteArray := prog_5_method_1_code
def yX3_init : MethodName := ⟨RX3, "<init>", "()V"⟩
abbrev cX3_hasBegun : ByteArray := prog_5_method_2_code
def yX3_hasBegun : MethodName := ⟨RX3, "hasBegun", "(I)Z"⟩
abbrev cX3_isFull : ByteArray := prog_5_method_3_code
def yX3_isFull : MethodName := ⟨RX3, "isFull", "()Z"⟩
abbrev cX3_ongoing : ByteArray := prog_5_method_4_code
def yX3_ongoing : MethodName := ⟨RX3, "ongoing", "(I)I"⟩
abbrev cX3_goesOn : ByteArray := prog_5_method_5_code
def yX3_goesOn : MethodName := ⟨RX3, "goesOn", "(I)Z"⟩
abbrev cX3_customer : ByteArray := prog_5_method_6_code
def yX3_customer : MethodName := ⟨RX3, "customer", "(I)I"⟩
abbrev cX3_yard : ByteArray := prog_5_method_7_code
def yX3_yard : MethodName := ⟨RX3, "yard", "(I)I"⟩
abbrev cX3_openBooking : ByteArray := prog_5_method_8_code
def yX3_openBooking : MethodName := ⟨RX3, "openBooking", "(I)I"⟩
abbrev cX3_setOpenBooking : ByteArray := prog_5_method_9_code
def yX3_setOpenBooking : MethodName := ⟨RX3, "setOpenBooking", "(II)V"⟩
abbrev cX3_trunksOf : ByteArray := prog_5_method_10_code
def yX3_trunksOf : MethodName := ⟨RX3, "trunksOf", "(I)I"⟩
abbrev cX3_trunkHas : ByteArray := prog_5_method_11_code
def yX3_trunkHas : MethodName := ⟨RX3, "trunkHas", "(I)I"⟩
abbrev cX3_setTrunk : ByteArray := prog_5_method_12_code
def yX3_setTrunk : MethodName := ⟨RX3, "setTrunk", "(II)V"⟩
abbrev cX3_callsTo : ByteArray := prog_5_method_13_code
def yX3_callsTo : MethodName := ⟨RX3, "callsTo", "(I)I"⟩
abbrev cX3_changeLines : ByteArray := prog_5_method_14_code
def yX3_changeLines : MethodName := ⟨RX3, "changeLines", "(II)I"⟩
abbrev cX3_begin : ByteArray := prog_5_method_15_code
def yX3_begin : MethodName := ⟨RX3, "begin", "(II)I"⟩
abbrev cX3_end : ByteArray := prog_5_method_16_code
def yX3_end : MethodName := ⟨RX3, "end", "(I)V"⟩
abbrev cX3_connect : ByteArray := prog_5_method_17_code
def yX3_connect : MethodName := ⟨RX3, "connect", "(IIII)I"⟩
abbrev cX3_occupy : ByteArray := prog_5_method_18_code
def yX3_occupy : MethodName := ⟨RX3, "occupy", "(II)V"⟩
abbrev cX3_freeTrunk : ByteArray := prog_5_method_19_code
def yX3_freeTrunk : MethodName := ⟨RX3, "freeTrunk", "(II)I"⟩
def RX4 : String := "TrunkYards"
def TX4 : u_T := fun k => match k with
  | 0 => ("TrunkYards", "rows", "LTrunkYards$Rows;", true)
  | 1 => ("TrunkYards", "replayed", "LTrunkYards$Rows;", true)
  | 2 => ("TrunkYards", "history", "LTrunkYards$History;", true)
  | 3 => ("TrunkYards", "ledger", "LTrunkYards$Ledger;", true)
  | 4 => ("TrunkYards", "board", "LTrunkYards$Switchboard;", true)
  | 5 => ("TrunkYards", "lastGrain", "[I", true)
  | 6 => ("TrunkYards", "mayFollow", "[Z", true)
  | 7 => ("TrunkYards", "destination", "[I", true)
  | 8 => ("TrunkYards", "placed", "I", false)
  | 9 => ("TrunkYards", "departed", "I", false)
  | 10 => ("TrunkYards", "busyCalls", "I", false)
  | _ => ("TrunkYards", "now", "I", false)
def tyX4 : Nat → FieldType := fun k => match k with
  | 0 => .object "TrunkYards$Rows"
  | 1 => .object "TrunkYards$Rows"
  | 2 => .object "TrunkYards$History"
  | 3 => .object "TrunkYards$Ledger"
  | 4 => .object "TrunkYards$Switchboard"
  | 5 => .array .int
  | 6 => .array .boolean
  | 7 => .array .int
  | 8 => .int
  | 9 => .int
  | 10 => .int
  | _ => .int
abbrev wsX40 : List Cond := u_ws RX4 TX4 12
theorem nmX4 : ∀ a, a < 12 → ∀ b, b < 12 → a ≠ b → (TX4 a).2.1 ≠ (TX4 b).2.1 := by decide +kernel
theorem tyX4_ok : ∀ k, k < 12 → parseFieldDescriptor (TX4 k).2.2.1 = some (tyX4 k) := by decide +kernel
abbrev cX4_init : ByteArray := prog_1_method_1_code
def yX4_init : MethodName := ⟨RX4, "<init>", "()V"⟩
abbrev cX4_wagon : ByteArray := prog_1_method_2_code
def yX4_wagon : MethodName := ⟨RX4, "wagon", "(II)I"⟩
abbrev cX4_shunt : ByteArray := prog_1_method_3_code
def yX4_shunt : MethodName := ⟨RX4, "shunt", "(IIII)I"⟩
abbrev cX4_wash : ByteArray := prog_1_method_4_code
def yX4_wash : MethodName := ⟨RX4, "wash", "(I)I"⟩
abbrev cX4_follow : ByteArray := prog_1_method_5_code
def yX4_follow : MethodName := ⟨RX4, "follow", "(II)Z"⟩
abbrev cX4_on : ByteArray := prog_1_method_6_code
def yX4_on : MethodName := ⟨RX4, "on", "(II)I"⟩
abbrev cX4_at : ByteArray := prog_1_method_7_code
def yX4_at : MethodName := ⟨RX4, "at", "(III)I"⟩
abbrev cX4_atByReplay : ByteArray := prog_1_method_8_code
def yX4_atByReplay : MethodName := ⟨RX4, "atByReplay", "(III)I"⟩
abbrev cX4_where : ByteArray := prog_1_method_9_code
def yX4_where : MethodName := ⟨RX4, "where", "(I)I"⟩
abbrev cX4_carried : ByteArray := prog_1_method_10_code
def yX4_carried : MethodName := ⟨RX4, "carried", "(I)I"⟩
abbrev cX4_promised : ByteArray := prog_1_method_11_code
def yX4_promised : MethodName := ⟨RX4, "promised", "(I)I"⟩
abbrev cX4_call : ByteArray := prog_1_method_12_code
def yX4_call : MethodName := ⟨RX4, "call", "(II)I"⟩
abbrev cX4_ask : ByteArray := prog_1_method_13_code
def yX4_ask : MethodName := ⟨RX4, "ask", "(II)I"⟩
abbrev cX4_confirm : ByteArray := prog_1_method_14_code
def yX4_confirm : MethodName := ⟨RX4, "confirm", "(I)I"⟩
abbrev cX4_resume : ByteArray := prog_1_method_15_code
def yX4_resume : MethodName := ⟨RX4, "resume", "(II)I"⟩
abbrev cX4_cancel : ByteArray := prog_1_method_16_code
def yX4_cancel : MethodName := ⟨RX4, "cancel", "(II)I"⟩
abbrev cX4_hangUp : ByteArray := prog_1_method_17_code
def yX4_hangUp : MethodName := ⟨RX4, "hangUp", "(I)I"⟩
abbrev cX4_callOf : ByteArray := prog_1_method_18_code
def yX4_callOf : MethodName := ⟨RX4, "callOf", "(I)I"⟩
abbrev cX4_way : ByteArray := prog_1_method_19_code
def yX4_way : MethodName := ⟨RX4, "way", "(I)I"⟩
abbrev cX4_busy : ByteArray := prog_1_method_20_code
def yX4_busy : MethodName := ⟨RX4, "busy", "()I"⟩
abbrev cX4_cut : ByteArray := prog_1_method_21_code
def yX4_cut : MethodName := ⟨RX4, "cut", "(III)I"⟩
abbrev cX4_mend : ByteArray := prog_1_method_22_code
def yX4_mend : MethodName := ⟨RX4, "mend", "(III)V"⟩
abbrev cX4_trunk : ByteArray := prog_1_method_23_code
def yX4_trunk : MethodName := ⟨RX4, "trunk", "(III)I"⟩
abbrev cX4_setLines : ByteArray := prog_1_method_24_code
def yX4_setLines : MethodName := ⟨RX4, "setLines", "(II)I"⟩
abbrev cX4_pass : ByteArray := prog_1_method_25_code
def yX4_pass : MethodName := ⟨RX4, "pass", "(I)I"⟩
abbrev cX4_bookings : ByteArray := prog_1_method_26_code
def yX4_bookings : MethodName := ⟨RX4, "bookings", "()I"⟩
abbrev cX4_state : ByteArray := prog_1_method_27_code
def yX4_state : MethodName := ⟨RX4, "state", "(I)I"⟩
abbrev cX4_wagons : ByteArray := prog_1_method_28_code
def yX4_wagons : MethodName := ⟨RX4, "wagons", "(I)I"⟩
abbrev cX4_wagonOf : ByteArray := prog_1_method_29_code
def yX4_wagonOf : MethodName := ⟨RX4, "wagonOf", "(II)I"⟩
abbrev cX4_lapses : ByteArray := prog_1_method_30_code
def yX4_lapses : MethodName := ⟨RX4, "lapses", "(I)I"⟩
abbrev cX4_depart : ByteArray := prog_1_method_31_code
def yX4_depart : MethodName := ⟨RX4, "depart", "(III)I"⟩
abbrev cX4_arrive : ByteArray := prog_1_method_32_code
def yX4_arrive : MethodName := ⟨RX4, "arrive", "(II)I"⟩
abbrev cX4_trains : ByteArray := prog_1_method_33_code
def yX4_trains : MethodName := ⟨RX4, "trains", "()I"⟩
abbrev cX4_isYard : ByteArray := prog_1_method_34_code
def yX4_isYard : MethodName := ⟨RX4, "isYard", "(I)Z"⟩
abbrev cX4_isTrack : ByteArray := prog_1_method_35_code
def yX4_isTrack : MethodName := ⟨RX4, "isTrack", "(I)Z"⟩
abbrev cX4_isGrain : ByteArray := prog_1_method_36_code
def yX4_isGrain : MethodName := ⟨RX4, "isGrain", "(I)Z"⟩
abbrev cX4_isExchange : ByteArray := prog_1_method_37_code
def yX4_isExchange : MethodName := ⟨RX4, "isExchange", "(I)Z"⟩
abbrev cX4_requireYard : ByteArray := prog_1_method_38_code
def yX4_requireYard : MethodName := ⟨RX4, "requireYard", "(I)V"⟩
abbrev cX4_requireTrack : ByteArray := prog_1_method_39_code
def yX4_requireTrack : MethodName := ⟨RX4, "requireTrack", "(II)V"⟩
abbrev cX4_requireCustomer : ByteArray := prog_1_method_40_code
def yX4_requireCustomer : MethodName := ⟨RX4, "requireCustomer", "(I)V"⟩
abbrev cX4_requireTrunk : ByteArray := prog_1_method_41_code
def yX4_requireTrunk : MethodName := ⟨RX4, "requireTrunk", "(III)V"⟩
abbrev cX4_requireWagon : ByteArray := prog_1_method_42_code
def yX4_requireWagon : MethodName := ⟨RX4, "requireWagon", "(I)V"⟩
abbrev cX4_requireCall : ByteArray := prog_1_method_43_code
def yX4_requireCall : MethodName := ⟨RX4, "requireCall", "(I)V"⟩
abbrev cX4_requireOngoing : ByteArray := prog_1_method_44_code
def yX4_requireOngoing : MethodName := ⟨RX4, "requireOngoing", "(I)V"⟩
abbrev cX4_requireBooking : ByteArray := prog_1_method_45_code
def yX4_requireBooking : MethodName := ⟨RX4, "requireBooking", "(I)V"⟩
abbrev cX4_rowOf : ByteArray := prog_1_method_46_code
def yX4_rowOf : MethodName := ⟨RX4, "rowOf", "(II)I"⟩
abbrev cX4_slotOf : ByteArray := prog_1_method_47_code
def yX4_slotOf : MethodName := ⟨RX4, "slotOf", "(III)I"⟩
abbrev cX4_wagonIn : ByteArray := prog_1_method_48_code
def yX4_wagonIn : MethodName := ⟨RX4, "wagonIn", "(LTrunkYards$Rows;II)I"⟩
abbrev cX4_moveLast : ByteArray := prog_1_method_49_code
def yX4_moveLast : MethodName := ⟨RX4, "moveLast", "(III)V"⟩
abbrev cX4_fits : ByteArray := prog_1_method_50_code
def yX4_fits : MethodName := ⟨RX4, "fits", "(II)Z"⟩
abbrev cX4_findWagon : ByteArray := prog_1_method_51_code
def yX4_findWagon : MethodName := ⟨RX4, "findWagon", "(II)I"⟩
abbrev cX4_isWithin : ByteArray := prog_1_method_52_code
def yX4_isWithin : MethodName := ⟨RX4, "isWithin", "(III)Z"⟩
abbrev cX4_cutOff : ByteArray := prog_1_method_53_code
def yX4_cutOff : MethodName := ⟨RX4, "cutOff", "(I)V"⟩
abbrev cX4_canDepart : ByteArray := prog_1_method_54_code
def yX4_canDepart : MethodName := ⟨RX4, "canDepart", "(I)Z"⟩
abbrev cX4_standsWhole : ByteArray := prog_1_method_55_code
def yX4_standsWhole : MethodName := ⟨RX4, "standsWhole", "(II)Z"⟩
abbrev cX4_load : ByteArray := prog_1_method_56_code
def yX4_load : MethodName := ⟨RX4, "load", "(I)V"⟩
abbrev cX4_unload : ByteArray := prog_1_method_57_code
def yX4_unload : MethodName := ⟨RX4, "unload", "(I)V"⟩
def RX5 : String := "TrunkYardsModel"
def TX5 : u_T := fun k => match k with
  | 0 => ("TrunkYardsModel", "thrown", "I", false)
  | 1 => ("TrunkYardsModel", "now", "I", false)
  | 2 => ("TrunkYardsModel", "wagons", "I", false)
  | 3 => ("TrunkYardsModel", "where", "[I", true)
  | 4 => ("TrunkYardsModel", "carried", "[I", true)
  | 5 => ("TrunkYardsModel", "booking", "[I", true)
  | 6 => ("TrunkYardsModel", "on", "[I", true)
  | 7 => ("TrunkYardsModel", "track", "[I", true)
  | 8 => ("TrunkYardsModel", "follows", "[I", true)
  | 9 => ("TrunkYardsModel", "trunk", "[I", true)
  | 10 => ("TrunkYardsModel", "lines", "[I", true)
  | 11 => ("TrunkYardsModel", "calls", "I", false)
  | 12 => ("TrunkYardsModel", "busy", "I", false)
  | 13 => ("TrunkYardsModel", "customer", "[I", true)
  | 14 => ("TrunkYardsModel", "yard", "[I", true)
  | 15 => ("TrunkYardsModel", "goesOn", "[Z", true)
  | 16 => ("TrunkYardsModel", "open", "[I", true)
  | 17 => ("TrunkYardsModel", "bookings", "I", false)
  | 18 => ("TrunkYardsModel", "state", "[I", true)
  | 19 => ("TrunkYardsModel", "grain", "[I", true)
  | 20 => ("TrunkYardsModel", "owner", "[I", true)
  | 21 => ("TrunkYardsModel", "booked", "[I", true)
  | 22 => ("TrunkYardsModel", "lapse", "[I", true)
  | 23 => ("TrunkYardsModel", "many", "[I", true)
  | 24 => ("TrunkYardsModel", "wagonOf", "[I", true)
  | 25 => ("TrunkYardsModel", "trains", "I", false)
  | 26 => ("TrunkYardsModel", "goesTo", "[I", true)
  | 27 => ("TrunkYardsModel", "hasArrived", "[Z", true)
  | 28 => ("TrunkYardsModel", "length", "[I", true)
  | _ => ("TrunkYardsModel", "train", "[I", true)
def tyX5 : Nat → FieldType := fun k => match k with
  | 0 => .int
  | 1 => .int
  | 2 => .int
  | 3 => .array .int
  | 4 => .array .int
  | 5 => .array .int
  | 6 => .array .int
  | 7 => .array .int
  | 8 => .array .int
  | 9 => .array .int
  | 10 => .array .int
  | 11 => .int
  | 12 => .int
  | 13 => .array .int
  | 14 => .array .int
  | 15 => .array .boolean
  | 16 => .array .int
  | 17 => .int
  | 18 => .array .int
  | 19 => .array .int
  | 20 => .array .int
  | 21 => .array .int
  | 22 => .array .int
  | 23 => .array .int
  | 24 => .array .int
  | 25 => .int
  | 26 => .array .int
  | 27 => .array .boolean
  | 28 => .array .int
  | _ => .array .int
abbrev wsX50 : List Cond := u_ws RX5 TX5 30
theorem nmX5 : ∀ a, a < 30 → ∀ b, b < 30 → a ≠ b → (TX5 a).2.1 ≠ (TX5 b).2.1 := by decide +kernel
theorem tyX5_ok : ∀ k, k < 30 → parseFieldDescriptor (TX5 k).2.2.1 = some (tyX5 k) := by decide +kernel
abbrev cX5_init : ByteArray := prog_7_method_1_code
def yX5_init : MethodName := ⟨RX5, "<init>", "()V"⟩
abbrev cX5_thrown : ByteArray := prog_7_method_2_code
def yX5_thrown : MethodName := ⟨RX5, "thrown", "()I"⟩
abbrev cX5_in : ByteArray := prog_7_method_3_code
def yX5_in : MethodName := ⟨RX5, "in", "(III)Z"⟩
abbrev cX5_isYard : ByteArray := prog_7_method_4_code
def yX5_isYard : MethodName := ⟨RX5, "isYard", "(I)Z"⟩
abbrev cX5_isTrack : ByteArray := prog_7_method_5_code
def yX5_isTrack : MethodName := ⟨RX5, "isTrack", "(II)Z"⟩
abbrev cX5_isGrain : ByteArray := prog_7_method_6_code
def yX5_isGrain : MethodName := ⟨RX5, "isGrain", "(I)Z"⟩
abbrev cX5_isWagon : ByteArray := prog_7_method_7_code
def yX5_isWagon : MethodName := ⟨RX5, "isWagon", "(I)Z"⟩
abbrev cX5_puts : ByteArray := prog_7_method_8_code
def yX5_puts : MethodName := ⟨RX5, "puts", "(III)V"⟩
abbrev cX5_wagon : ByteArray := prog_7_method_9_code
def yX5_wagon : MethodName := ⟨RX5, "wagon", "(II)I"⟩
abbrev cX5_shunt : ByteArray := prog_7_method_10_code
def yX5_shunt : MethodName := ⟨RX5, "shunt", "(IIII)I"⟩
abbrev cX5_wash : ByteArray := prog_7_method_11_code
def yX5_wash : MethodName := ⟨RX5, "wash", "(I)I"⟩
abbrev cX5_follow : ByteArray := prog_7_method_12_code
def yX5_follow : MethodName := ⟨RX5, "follow", "(II)Z"⟩
abbrev cX5_on : ByteArray := prog_7_method_13_code
def yX5_on : MethodName := ⟨RX5, "on", "(II)I"⟩
abbrev cX5_wagonAt : ByteArray := prog_7_method_14_code
def yX5_wagonAt : MethodName := ⟨RX5, "wagonAt", "(III)I"⟩
abbrev cX5_at : ByteArray := prog_7_method_15_code
def yX5_at : MethodName := ⟨RX5, "at", "(III)I"⟩
abbrev cX5_atByReplay : ByteArray := prog_7_method_16_code
def yX5_atByReplay : MethodName := ⟨RX5, "atByReplay", "(III)I"⟩
abbrev cX5_asksWagon : ByteArray := prog_7_method_17_code
def yX5_asksWagon : MethodName := ⟨RX5, "asksWagon", "(I)Z"⟩
abbrev cX5_where : ByteArray := prog_7_method_18_code
def yX5_where : MethodName := ⟨RX5, "where", "(I)I"⟩
abbrev cX5_carried : ByteArray := prog_7_method_19_code
def yX5_carried : MethodName := ⟨RX5, "carried", "(I)I"⟩
abbrev cX5_isPromised : ByteArray := prog_7_method_20_code
def yX5_isPromised : MethodName := ⟨RX5, "isPromised", "(I)Z"⟩
abbrev cX5_promised : ByteArray := prog_7_method_21_code
def yX5_promised : MethodName := ⟨RX5, "promised", "(I)I"⟩
abbrev cX5_isCall : ByteArray := prog_7_method_22_code
def yX5_isCall : MethodName := ⟨RX5, "isCall", "(I)Z"⟩
abbrev cX5_isBooking : ByteArray := prog_7_method_23_code
def yX5_isBooking : MethodName := ⟨RX5, "isBooking", "(I)Z"⟩
abbrev cX5_callNow : ByteArray := prog_7_method_24_code
def yX5_callNow : MethodName := ⟨RX5, "callNow", "(I)I"⟩
abbrev cX5_callsTo : ByteArray := prog_7_method_25_code
def yX5_callsTo : MethodName := ⟨RX5, "callsTo", "(I)I"⟩
abbrev cX5_between : ByteArray := prog_7_method_26_code
def yX5_between : MethodName := ⟨RX5, "between", "(II)I"⟩
abbrev cX5_freeBetween : ByteArray := prog_7_method_27_code
def yX5_freeBetween : MethodName := ⟨RX5, "freeBetween", "(II)I"⟩
abbrev cX5_takesWay : ByteArray := prog_7_method_28_code
def yX5_takesWay : MethodName := ⟨RX5, "takesWay", "(II)Z"⟩
abbrev cX5_call : ByteArray := prog_7_method_29_code
def yX5_call : MethodName := ⟨RX5, "call", "(II)I"⟩
abbrev cX5_fits : ByteArray := prog_7_method_30_code
def yX5_fits : MethodName := ⟨RX5, "fits", "(II)Z"⟩
abbrev cX5_finds : ByteArray := prog_7_method_31_code
def yX5_finds : MethodName := ⟨RX5, "finds", "(II)I"⟩
abbrev cX5_adds : ByteArray := prog_7_method_32_code
def yX5_adds : MethodName := ⟨RX5, "adds", "(II)V"⟩
abbrev cX5_ask : ByteArray := prog_7_method_33_code
def yX5_ask : MethodName := ⟨RX5, "ask", "(II)I"⟩
abbrev cX5_confirm : ByteArray := prog_7_method_34_code
def yX5_confirm : MethodName := ⟨RX5, "confirm", "(I)I"⟩
abbrev cX5_isOf : ByteArray := prog_7_method_35_code
def yX5_isOf : MethodName := ⟨RX5, "isOf", "(II)Z"⟩
abbrev cX5_resume : ByteArray := prog_7_method_36_code
def yX5_resume : MethodName := ⟨RX5, "resume", "(II)I"⟩
abbrev cX5_cancel : ByteArray := prog_7_method_37_code
def yX5_cancel : MethodName := ⟨RX5, "cancel", "(II)I"⟩
abbrev cX5_ends : ByteArray := prog_7_method_38_code
def yX5_ends : MethodName := ⟨RX5, "ends", "(I)V"⟩
abbrev cX5_hangUp : ByteArray := prog_7_method_39_code
def yX5_hangUp : MethodName := ⟨RX5, "hangUp", "(I)I"⟩
abbrev cX5_callOf : ByteArray := prog_7_method_40_code
def yX5_callOf : MethodName := ⟨RX5, "callOf", "(I)I"⟩
abbrev cX5_way : ByteArray := prog_7_method_41_code
def yX5_way : MethodName := ⟨RX5, "way", "(I)I"⟩
abbrev cX5_busy : ByteArray := prog_7_method_42_code
def yX5_busy : MethodName := ⟨RX5, "busy", "()I"⟩
abbrev cX5_isTrunk : ByteArray := prog_7_method_43_code
def yX5_isTrunk : MethodName := ⟨RX5, "isTrunk", "(III)Z"⟩
abbrev cX5_cut : ByteArray := prog_7_method_44_code
def yX5_cut : MethodName := ⟨RX5, "cut", "(III)I"⟩
abbrev cX5_mend : ByteArray := prog_7_method_45_code
def yX5_mend : MethodName := ⟨RX5, "mend", "(III)V"⟩
abbrev cX5_trunk : ByteArray := prog_7_method_46_code
def yX5_trunk : MethodName := ⟨RX5, "trunk", "(III)I"⟩
abbrev cX5_setLines : ByteArray := prog_7_method_47_code
def yX5_setLines : MethodName := ⟨RX5, "setLines", "(II)I"⟩
abbrev cX5_pass : ByteArray := prog_7_method_48_code
def yX5_pass : MethodName := ⟨RX5, "pass", "(I)I"⟩
abbrev cX5_bookings : ByteArray := prog_7_method_49_code
def yX5_bookings : MethodName := ⟨RX5, "bookings", "()I"⟩
abbrev cX5_asksBooking : ByteArray := prog_7_method_50_code
def yX5_asksBooking : MethodName := ⟨RX5, "asksBooking", "(I)Z"⟩
abbrev cX5_state : ByteArray := prog_7_method_51_code
def yX5_state : MethodName := ⟨RX5, "state", "(I)I"⟩
abbrev cX5_wagons : ByteArray := prog_7_method_52_code
def yX5_wagons : MethodName := ⟨RX5, "wagons", "(I)I"⟩
abbrev cX5_wagonOf : ByteArray := prog_7_method_53_code
def yX5_wagonOf : MethodName := ⟨RX5, "wagonOf", "(II)I"⟩
abbrev cX5_lapses : ByteArray := prog_7_method_54_code
def yX5_lapses : MethodName := ⟨RX5, "lapses", "(I)I"⟩
abbrev cX5_areOn : ByteArray := prog_7_method_55_code
def yX5_areOn : MethodName := ⟨RX5, "areOn", "(II)Z"⟩
abbrev cX5_canDepart : ByteArray := prog_7_method_56_code
def yX5_canDepart : MethodName := ⟨RX5, "canDepart", "(II)Z"⟩
abbrev cX5_depart : ByteArray := prog_7_method_57_code
def yX5_depart : MethodName := ⟨RX5, "depart", "(III)I"⟩
abbrev cX5_arrive : ByteArray := prog_7_method_58_code
def yX5_arrive : MethodName := ⟨RX5, "arrive", "(II)I"⟩
abbrev cX5_trains : ByteArray := prog_7_method_59_code
def yX5_trains : MethodName := ⟨RX5, "trains", "()I"⟩
def RJx145de : String := "java/io/Serializable"
def TJx145de : u_T := fun k => match k with
  | _ => ("", "", "", false)
def tyJx145de : Nat → FieldType := fun k => match k with
  | _ => .int
abbrev wsJx145de0 : List Cond := u_ws RJx145de TJx145de 0
theorem nmJx145de : ∀ a, a < 0 → ∀ b, b < 0 → a ≠ b → (TJx145de a).2.1 ≠ (TJx145de b).2.1 := by decide +kernel
theorem tyJx145de_ok : ∀ k, k < 0 → parseFieldDescriptor (TJx145de k).2.2.1 = some (tyJx145de k) := by decide +kernel
def RJ0 : String := "java/lang/String"
def TJ0 : u_T := fun k => match k with
  | _ => ("", "", "", false)
def tyJ0 : Nat → FieldType := fun k => match k with
  | _ => .int
abbrev wsJ00 : List Cond := u_ws RJ0 TJ0 0
theorem nmJ0 : ∀ a, a < 0 → ∀ b, b < 0 → a ≠ b → (TJ0 a).2.1 ≠ (TJ0 b).2.1 := by decide +kernel
theorem tyJ0_ok : ∀ k, k < 0 → parseFieldDescriptor (TJ0 k).2.2.1 = some (tyJ0 k) := by decide +kernel
def RJ7 : String := "java/util/Arrays"
def TJ7 : u_T := fun k => match k with
  | _ => ("", "", "", false)
def tyJ7 : Nat → FieldType := fun k => match k with
  | _ => .int
abbrev wsJ70 : List Cond := u_ws RJ7 TJ7 0
theorem nmJ7 : ∀ a, a < 0 → ∀ b, b < 0 → a ≠ b → (TJ7 a).2.1 ≠ (TJ7 b).2.1 := by decide +kernel
theorem tyJ7_ok : ∀ k, k < 0 → parseFieldDescriptor (TJ7 k).2.2.1 = some (tyJ7 k) := by decide +kernel
abbrev cJ7_fill_53178 : ByteArray := prog_15_method_103_code
def yJ7_fill_53178 : MethodName := ⟨RJ7, "fill", "([II)V"⟩
def RL : String := "TrunkYardsLaw"
abbrev cL_wagon : ByteArray := method_3_code
def yL_wagon : MethodName := ⟨RL, "wagon", "(LTrunkYards;II[J)I"⟩
abbrev cL_shunt : ByteArray := method_4_code
def yL_shunt : MethodName := ⟨RL, "shunt", "(LTrunkYards;IIII[J)I"⟩
abbrev cL_wash : ByteArray := method_5_code
def yL_wash : MethodName := ⟨RL, "wash", "(LTrunkYards;I[J)I"⟩
abbrev cL_follow : ByteArray := method_6_code
def yL_follow : MethodName := ⟨RL, "follow", "(LTrunkYards;II[J)I"⟩
abbrev cL_on : ByteArray := method_7_code
def yL_on : MethodName := ⟨RL, "on", "(LTrunkYards;II[J)I"⟩
abbrev cL_at : ByteArray := method_8_code
def yL_at : MethodName := ⟨RL, "at", "(LTrunkYards;III[J)I"⟩
abbrev cL_atByReplay : ByteArray := method_9_code
def yL_atByReplay : MethodName := ⟨RL, "atByReplay", "(LTrunkYards;III[J)I"⟩
abbrev cL_where : ByteArray := method_10_code
def yL_where : MethodName := ⟨RL, "where", "(LTrunkYards;I[J)I"⟩
abbrev cL_carried : ByteArray := method_11_code
def yL_carried : MethodName := ⟨RL, "carried", "(LTrunkYards;I[J)I"⟩
abbrev cL_promised : ByteArray := method_12_code
def yL_promised : MethodName := ⟨RL, "promised", "(LTrunkYards;I[J)I"⟩
abbrev cL_call : ByteArray := method_13_code
def yL_call : MethodName := ⟨RL, "call", "(LTrunkYards;II[J)I"⟩
abbrev cL_ask : ByteArray := method_14_code
def yL_ask : MethodName := ⟨RL, "ask", "(LTrunkYards;II[J)I"⟩
abbrev cL_confirm : ByteArray := method_15_code
def yL_confirm : MethodName := ⟨RL, "confirm", "(LTrunkYards;I[J)I"⟩
abbrev cL_resume : ByteArray := method_16_code
def yL_resume : MethodName := ⟨RL, "resume", "(LTrunkYards;II[J)I"⟩
abbrev cL_cancel : ByteArray := method_17_code
def yL_cancel : MethodName := ⟨RL, "cancel", "(LTrunkYards;II[J)I"⟩
abbrev cL_hangUp : ByteArray := method_18_code
def yL_hangUp : MethodName := ⟨RL, "hangUp", "(LTrunkYards;I[J)I"⟩
abbrev cL_callOf : ByteArray := method_19_code
def yL_callOf : MethodName := ⟨RL, "callOf", "(LTrunkYards;I[J)I"⟩
abbrev cL_way : ByteArray := method_20_code
def yL_way : MethodName := ⟨RL, "way", "(LTrunkYards;I[J)I"⟩
abbrev cL_cut : ByteArray := method_21_code
def yL_cut : MethodName := ⟨RL, "cut", "(LTrunkYards;III[J)I"⟩
abbrev cL_mend : ByteArray := method_22_code
def yL_mend : MethodName := ⟨RL, "mend", "(LTrunkYards;III)I"⟩
abbrev cL_trunk : ByteArray := method_23_code
def yL_trunk : MethodName := ⟨RL, "trunk", "(LTrunkYards;III[J)I"⟩
abbrev cL_setLines : ByteArray := method_24_code
def yL_setLines : MethodName := ⟨RL, "setLines", "(LTrunkYards;II[J)I"⟩
abbrev cL_pass : ByteArray := method_25_code
def yL_pass : MethodName := ⟨RL, "pass", "(LTrunkYards;I[J)I"⟩
abbrev cL_state : ByteArray := method_26_code
def yL_state : MethodName := ⟨RL, "state", "(LTrunkYards;I[J)I"⟩
abbrev cL_wagons : ByteArray := method_27_code
def yL_wagons : MethodName := ⟨RL, "wagons", "(LTrunkYards;I[J)I"⟩
abbrev cL_wagonOf : ByteArray := method_28_code
def yL_wagonOf : MethodName := ⟨RL, "wagonOf", "(LTrunkYards;II[J)I"⟩
abbrev cL_lapses : ByteArray := method_29_code
def yL_lapses : MethodName := ⟨RL, "lapses", "(LTrunkYards;I[J)I"⟩
abbrev cL_depart : ByteArray := method_30_code
def yL_depart : MethodName := ⟨RL, "depart", "(LTrunkYards;III[J)I"⟩
abbrev cL_arrive : ByteArray := method_31_code
def yL_arrive : MethodName := ⟨RL, "arrive", "(LTrunkYards;II[J)I"⟩
abbrev cL_law : ByteArray := code
def yL_law : MethodName := ⟨RL, "law", "([I)Z"⟩
def wsX0_init : List Cond := .code yX0_init cX0_init 1 none :: ([.methodLink RX0 3 objectInit, .instanceMethod objectInit, .code objectInit ⟨#[0xb1]⟩ 1 none, .arrayClass .int, .fieldLink RX0 9 "TrunkYards$History" "from" "[I", .fieldLink RX0 15 "TrunkYards$History" "to" "[I", .fieldLink RX0 18 "TrunkYards$History" "many" "[I"] ++ wsX00)
def wsX0_noteMove : List Cond := .code yX0_noteMove cX0_noteMove 4 none :: ([.fieldLink RX0 25 "TrunkYards$History" "noted" "I", .fieldLink RX0 9 "TrunkYards$History" "from" "[I", .fieldLink RX0 15 "TrunkYards$History" "to" "[I", .fieldLink RX0 18 "TrunkYards$History" "many" "[I"] ++ wsX00)
def wsX0_notePlacing : List Cond := .code yX0_notePlacing cX0_notePlacing 3 none :: ([.methodLink RX0 21 yX0_noteMove, .instanceMethod yX0_noteMove, .selects RX0 yX0_noteMove yX0_noteMove, .initialized RX0, .code yX0_noteMove cX0_noteMove 4 none, .fieldLink RX0 25 "TrunkYards$History" "noted" "I", .fieldLink RX0 9 "TrunkYards$History" "from" "[I", .fieldLink RX0 15 "TrunkYards$History" "to" "[I", .fieldLink RX0 18 "TrunkYards$History" "many" "[I"] ++ wsX00)
def wsJ7_fill_53178 : List Cond := .code yJ7_fill_53178 cJ7_fill_53178 4 none :: ([])
def wsX2_clear : List Cond := .code yX2_clear cX2_clear 1 none :: ([.fieldLink RX2 9 "TrunkYards$Rows" "counts" "[I", .methodLink RX2 22 yJ7_fill_53178, .static yJ7_fill_53178, .initialized RJ7, .code yJ7_fill_53178 cJ7_fill_53178 4 none] ++ wsX20)
def wsX2_put : List Cond := .code yX2_put cX2_put 3 none :: ([.fieldLink RX2 15 "TrunkYards$Rows" "standing" "[I", .fieldLink RX2 9 "TrunkYards$Rows" "counts" "[I"] ++ wsX20)
def wsX2_move : List Cond := .code yX2_move cX2_move 7 none :: ([.fieldLink RX2 9 "TrunkYards$Rows" "counts" "[I", .fieldLink RX2 15 "TrunkYards$Rows" "standing" "[I"] ++ wsX20)
def wsX0_replay : List Cond := .code yX0_replay cX0_replay 3 none :: ([.fieldLink RX0 25 "TrunkYards$History" "noted" "I", .fieldLink RX0 9 "TrunkYards$History" "from" "[I", .fieldLink RX0 15 "TrunkYards$History" "to" "[I", .fieldLink RX0 18 "TrunkYards$History" "many" "[I", .methodLink RX0 29 yX2_clear, .instanceMethod yX2_clear, .selects RX2 yX2_clear yX2_clear, .initialized RX2, .code yX2_clear cX2_clear 1 none, .fieldLink RX2 9 "TrunkYards$Rows" "counts" "[I", .methodLink RX2 22 yJ7_fill_53178, .static yJ7_fill_53178, .initialized RJ7, .code yJ7_fill_53178 cJ7_fill_53178 4 none, .methodLink RX0 34 yX2_put, .instanceMethod yX2_put, .selects RX2 yX2_put yX2_put, .code yX2_put cX2_put 3 none, .fieldLink RX2 15 "TrunkYards$Rows" "standing" "[I", .methodLink RX0 38 yX2_move, .instanceMethod yX2_move, .selects RX2 yX2_move yX2_move, .code yX2_move cX2_move 7 none] ++ wsX00 ++ wsX20)
def wsX1_init : List Cond := .code yX1_init cX1_init 1 none :: ([.methodLink RX1 3 objectInit, .instanceMethod objectInit, .code objectInit ⟨#[0xb1]⟩ 1 none, .arrayClass .int, .fieldLink RX1 9 "TrunkYards$Ledger" "customers" "[I", .fieldLink RX1 15 "TrunkYards$Ledger" "yards" "[I", .fieldLink RX1 18 "TrunkYards$Ledger" "grains" "[I", .fieldLink RX1 21 "TrunkYards$Ledger" "standings" "[I", .fieldLink RX1 24 "TrunkYards$Ledger" "lapseTicks" "[I", .fieldLink RX1 27 "TrunkYards$Ledger" "sizes" "[I", .fieldLink RX1 30 "TrunkYards$Ledger" "booked" "[I", .fieldLink RX1 33 "TrunkYards$Ledger" "bookingOfWagon" "[I", .methodLink RX1 36 yJ7_fill_53178, .static yJ7_fill_53178, .initialized RJ7, .code yJ7_fill_53178 cJ7_fill_53178 4 none] ++ wsX10)
def wsX1_opened : List Cond := .code yX1_opened cX1_opened 1 (some .int) :: ([.fieldLink RX1 42 "TrunkYards$Ledger" "count" "I"] ++ wsX10)
def wsX1_isFull : List Cond := .code yX1_isFull cX1_isFull 1 (some .boolean) :: ([.fieldLink RX1 42 "TrunkYards$Ledger" "count" "I"] ++ wsX10)
def wsX1_customer : List Cond := .code yX1_customer cX1_customer 2 (some .int) :: ([.fieldLink RX1 9 "TrunkYards$Ledger" "customers" "[I"] ++ wsX10)
def wsX1_yard : List Cond := .code yX1_yard cX1_yard 2 (some .int) :: ([.fieldLink RX1 15 "TrunkYards$Ledger" "yards" "[I"] ++ wsX10)
def wsX1_grain : List Cond := .code yX1_grain cX1_grain 2 (some .int) :: ([.fieldLink RX1 18 "TrunkYards$Ledger" "grains" "[I"] ++ wsX10)
def wsX1_standing : List Cond := .code yX1_standing cX1_standing 2 (some .int) :: ([.fieldLink RX1 21 "TrunkYards$Ledger" "standings" "[I"] ++ wsX10)
def wsX1_lapseTick : List Cond := .code yX1_lapseTick cX1_lapseTick 2 (some .int) :: ([.fieldLink RX1 24 "TrunkYards$Ledger" "lapseTicks" "[I"] ++ wsX10)
def wsX1_size : List Cond := .code yX1_size cX1_size 2 (some .int) :: ([.fieldLink RX1 27 "TrunkYards$Ledger" "sizes" "[I"] ++ wsX10)
def wsX1_get : List Cond := .code yX1_get cX1_get 3 (some .int) :: ([.fieldLink RX1 30 "TrunkYards$Ledger" "booked" "[I"] ++ wsX10)
def wsX1_bookingFor : List Cond := .code yX1_bookingFor cX1_bookingFor 2 (some .int) :: ([.fieldLink RX1 33 "TrunkYards$Ledger" "bookingOfWagon" "[I"] ++ wsX10)
def wsX1_open : List Cond := .code yX1_open cX1_open 5 (some .int) :: ([.fieldLink RX1 42 "TrunkYards$Ledger" "count" "I", .fieldLink RX1 9 "TrunkYards$Ledger" "customers" "[I", .fieldLink RX1 15 "TrunkYards$Ledger" "yards" "[I", .fieldLink RX1 18 "TrunkYards$Ledger" "grains" "[I", .fieldLink RX1 21 "TrunkYards$Ledger" "standings" "[I"] ++ wsX10)
def wsX1_add : List Cond := .code yX1_add cX1_add 3 none :: ([.fieldLink RX1 30 "TrunkYards$Ledger" "booked" "[I", .fieldLink RX1 27 "TrunkYards$Ledger" "sizes" "[I", .fieldLink RX1 33 "TrunkYards$Ledger" "bookingOfWagon" "[I"] ++ wsX10)
def wsX1_keep : List Cond := .code yX1_keep cX1_keep 3 none :: ([.fieldLink RX1 21 "TrunkYards$Ledger" "standings" "[I"] ++ wsX10)
def wsX1_halve : List Cond := .code yX1_halve cX1_halve 3 none :: ([.fieldLink RX1 21 "TrunkYards$Ledger" "standings" "[I", .fieldLink RX1 24 "TrunkYards$Ledger" "lapseTicks" "[I"] ++ wsX10)
def wsX1_release : List Cond := .code yX1_release cX1_release 4 none :: ([.fieldLink RX1 21 "TrunkYards$Ledger" "standings" "[I", .fieldLink RX1 27 "TrunkYards$Ledger" "sizes" "[I", .fieldLink RX1 33 "TrunkYards$Ledger" "bookingOfWagon" "[I", .methodLink RX1 46 yX1_get, .instanceMethod yX1_get, .selects RX1 yX1_get yX1_get, .initialized RX1, .code yX1_get cX1_get 3 (some .int), .fieldLink RX1 30 "TrunkYards$Ledger" "booked" "[I"] ++ wsX10)
def wsX1_lapseAll : List Cond := .code yX1_lapseAll cX1_lapseAll 4 (some .int) :: ([.fieldLink RX1 42 "TrunkYards$Ledger" "count" "I", .fieldLink RX1 21 "TrunkYards$Ledger" "standings" "[I", .fieldLink RX1 24 "TrunkYards$Ledger" "lapseTicks" "[I", .methodLink RX1 50 yX1_release, .instanceMethod yX1_release, .selects RX1 yX1_release yX1_release, .initialized RX1, .code yX1_release cX1_release 4 none, .fieldLink RX1 27 "TrunkYards$Ledger" "sizes" "[I", .fieldLink RX1 33 "TrunkYards$Ledger" "bookingOfWagon" "[I", .methodLink RX1 46 yX1_get, .instanceMethod yX1_get, .selects RX1 yX1_get yX1_get, .code yX1_get cX1_get 3 (some .int), .fieldLink RX1 30 "TrunkYards$Ledger" "booked" "[I"] ++ wsX10)
def wsX2_init : List Cond := .code yX2_init cX2_init 1 none :: ([.methodLink RX2 3 objectInit, .instanceMethod objectInit, .code objectInit ⟨#[0xb1]⟩ 1 none, .arrayClass .int, .fieldLink RX2 9 "TrunkYards$Rows" "counts" "[I", .fieldLink RX2 15 "TrunkYards$Rows" "standing" "[I"] ++ wsX20)
def wsX2_count : List Cond := .code yX2_count cX2_count 2 (some .int) :: ([.fieldLink RX2 9 "TrunkYards$Rows" "counts" "[I"] ++ wsX20)
def wsX2_get : List Cond := .code yX2_get cX2_get 3 (some .int) :: ([.fieldLink RX2 15 "TrunkYards$Rows" "standing" "[I"] ++ wsX20)
def wsX2_hasRoom : List Cond := .code yX2_hasRoom cX2_hasRoom 3 (some .boolean) :: ([.fieldLink RX2 9 "TrunkYards$Rows" "counts" "[I"] ++ wsX20)
def wsX2_findOnTracks : List Cond := .code yX2_findOnTracks cX2_findOnTracks 4 (some .int) :: ([.fieldLink RX2 9 "TrunkYards$Rows" "counts" "[I", .methodLink RX2 18 yX2_get, .instanceMethod yX2_get, .selects RX2 yX2_get yX2_get, .initialized RX2, .code yX2_get cX2_get 3 (some .int), .fieldLink RX2 15 "TrunkYards$Rows" "standing" "[I"] ++ wsX20)
def wsX3_init : List Cond := .code yX3_init cX3_init 1 none :: ([.methodLink RX3 3 objectInit, .instanceMethod objectInit, .code objectInit ⟨#[0xb1]⟩ 1 none, .arrayClass .int, .fieldLink RX3 9 "TrunkYards$Switchboard" "customers" "[I", .fieldLink RX3 15 "TrunkYards$Switchboard" "yards" "[I", .fieldLink RX3 18 "TrunkYards$Switchboard" "openBookings" "[I", .fieldLink RX3 21 "TrunkYards$Switchboard" "firstTrunks" "[I", .fieldLink RX3 24 "TrunkYards$Switchboard" "secondTrunks" "[I", .fieldLink RX3 27 "TrunkYards$Switchboard" "ongoingCalls" "[I", .fieldLink RX3 30 "TrunkYards$Switchboard" "trunks" "[I", .fieldLink RX3 33 "TrunkYards$Switchboard" "lineCounts" "[I", .methodLink RX3 36 yJ7_fill_53178, .static yJ7_fill_53178, .initialized RJ7, .code yJ7_fill_53178 cJ7_fill_53178 4 none] ++ wsX30)
def wsX3_hasBegun : List Cond := .code yX3_hasBegun cX3_hasBegun 2 (some .boolean) :: ([.fieldLink RX3 42 "TrunkYards$Switchboard" "begun" "I"] ++ wsX30)
def wsX3_isFull : List Cond := .code yX3_isFull cX3_isFull 1 (some .boolean) :: ([.fieldLink RX3 42 "TrunkYards$Switchboard" "begun" "I"] ++ wsX30)
def wsX3_ongoing : List Cond := .code yX3_ongoing cX3_ongoing 2 (some .int) :: ([.fieldLink RX3 27 "TrunkYards$Switchboard" "ongoingCalls" "[I"] ++ wsX30)
def wsX3_goesOn : List Cond := .code yX3_goesOn cX3_goesOn 2 (some .boolean) :: ([.fieldLink RX3 27 "TrunkYards$Switchboard" "ongoingCalls" "[I", .fieldLink RX3 9 "TrunkYards$Switchboard" "customers" "[I"] ++ wsX30)
def wsX3_customer : List Cond := .code yX3_customer cX3_customer 2 (some .int) :: ([.fieldLink RX3 9 "TrunkYards$Switchboard" "customers" "[I"] ++ wsX30)
def wsX3_yard : List Cond := .code yX3_yard cX3_yard 2 (some .int) :: ([.fieldLink RX3 15 "TrunkYards$Switchboard" "yards" "[I"] ++ wsX30)
def wsX3_openBooking : List Cond := .code yX3_openBooking cX3_openBooking 2 (some .int) :: ([.fieldLink RX3 18 "TrunkYards$Switchboard" "openBookings" "[I"] ++ wsX30)
def wsX3_setOpenBooking : List Cond := .code yX3_setOpenBooking cX3_setOpenBooking 3 none :: ([.fieldLink RX3 18 "TrunkYards$Switchboard" "openBookings" "[I"] ++ wsX30)
def wsX3_trunksOf : List Cond := .code yX3_trunksOf cX3_trunksOf 2 (some .int) :: ([.fieldLink RX3 21 "TrunkYards$Switchboard" "firstTrunks" "[I", .fieldLink RX3 24 "TrunkYards$Switchboard" "secondTrunks" "[I"] ++ wsX30)
def wsX3_trunkHas : List Cond := .code yX3_trunkHas cX3_trunkHas 2 (some .int) :: ([.fieldLink RX3 30 "TrunkYards$Switchboard" "trunks" "[I"] ++ wsX30)
def wsX3_setTrunk : List Cond := .code yX3_setTrunk cX3_setTrunk 3 none :: ([.fieldLink RX3 30 "TrunkYards$Switchboard" "trunks" "[I"] ++ wsX30)
def wsX3_callsTo : List Cond := .code yX3_callsTo cX3_callsTo 5 (some .int) :: ([.fieldLink RX3 27 "TrunkYards$Switchboard" "ongoingCalls" "[I", .fieldLink RX3 15 "TrunkYards$Switchboard" "yards" "[I"] ++ wsX30)
def wsX3_changeLines : List Cond := .code yX3_changeLines cX3_changeLines 4 (some .int) :: ([.fieldLink RX3 33 "TrunkYards$Switchboard" "lineCounts" "[I"] ++ wsX30)
def wsX3_occupy : List Cond := .code yX3_occupy cX3_occupy 3 none :: ([.fieldLink RX3 30 "TrunkYards$Switchboard" "trunks" "[I"] ++ wsX30)
def wsX3_connect : List Cond := .code yX3_connect cX3_connect 6 (some .int) :: ([.fieldLink RX3 42 "TrunkYards$Switchboard" "begun" "I", .fieldLink RX3 9 "TrunkYards$Switchboard" "customers" "[I", .fieldLink RX3 15 "TrunkYards$Switchboard" "yards" "[I", .fieldLink RX3 18 "TrunkYards$Switchboard" "openBookings" "[I", .fieldLink RX3 21 "TrunkYards$Switchboard" "firstTrunks" "[I", .fieldLink RX3 24 "TrunkYards$Switchboard" "secondTrunks" "[I", .fieldLink RX3 27 "TrunkYards$Switchboard" "ongoingCalls" "[I", .methodLink RX3 58 yX3_occupy, .instanceMethod yX3_occupy, .selects RX3 yX3_occupy yX3_occupy, .initialized RX3, .code yX3_occupy cX3_occupy 3 none, .fieldLink RX3 30 "TrunkYards$Switchboard" "trunks" "[I"] ++ wsX30)
def wsX4_slotOf : List Cond := .code yX4_slotOf cX4_slotOf 3 (some .int) :: ([])
def wsX3_freeTrunk : List Cond := .code yX3_freeTrunk cX3_freeTrunk 5 (some .int) :: ([.fieldLink RX3 30 "TrunkYards$Switchboard" "trunks" "[I", .static yX4_slotOf, .initialized RX4, .code yX4_slotOf cX4_slotOf 3 (some .int)] ++ wsX30)
def wsX3_begin_r1 : List Cond := [Cond.fieldLink RX3 33 "TrunkYards$Switchboard" "lineCounts" "[I", Cond.methodLink RX3 46 yX3_callsTo, Cond.instanceMethod yX3_callsTo, Cond.selects RX3 yX3_callsTo yX3_callsTo, Cond.initialized RX3, Cond.code yX3_callsTo cX3_callsTo 5 (some .int), Cond.fieldLink RX3 27 "TrunkYards$Switchboard" "ongoingCalls" "[I", Cond.fieldLink RX3 15 "TrunkYards$Switchboard" "yards" "[I", Cond.methodLink RX3 50 yX3_connect, Cond.instanceMethod yX3_connect, Cond.selects RX3 yX3_connect yX3_connect, Cond.code yX3_connect cX3_connect 6 (some .int), Cond.fieldLink RX3 42 "TrunkYards$Switchboard" "begun" "I", Cond.fieldLink RX3 9 "TrunkYards$Switchboard" "customers" "[I", Cond.fieldLink RX3 18 "TrunkYards$Switchboard" "openBookings" "[I", Cond.fieldLink RX3 21 "TrunkYards$Switchboard" "firstTrunks" "[I", Cond.fieldLink RX3 24 "TrunkYards$Switchboard" "secondTrunks" "[I", Cond.methodLink RX3 58 yX3_occupy, Cond.instanceMethod yX3_occupy, Cond.selects RX3 yX3_occupy yX3_occupy, Cond.code yX3_occupy cX3_occupy 3 none, Cond.fieldLink RX3 30 "TrunkYards$Switchboard" "trunks" "[I", Cond.methodLink RX3 54 yX3_freeTrunk, Cond.instanceMethod yX3_freeTrunk]
def wsX3_begin_r2 : List Cond := [Cond.selects RX3 yX3_freeTrunk yX3_freeTrunk, Cond.code yX3_freeTrunk cX3_freeTrunk 5 (some .int), Cond.static yX4_slotOf, Cond.initialized RX4, Cond.code yX4_slotOf cX4_slotOf 3 (some .int)]
def wsX3_begin : List Cond := .code yX3_begin cX3_begin 8 (some .int) :: ((wsX3_begin_r1 ++ wsX3_begin_r2) ++ wsX30)
def wsX3_end : List Cond := .code yX3_end cX3_end 2 none :: ([.fieldLink RX3 27 "TrunkYards$Switchboard" "ongoingCalls" "[I", .fieldLink RX3 9 "TrunkYards$Switchboard" "customers" "[I", .fieldLink RX3 21 "TrunkYards$Switchboard" "firstTrunks" "[I", .fieldLink RX3 24 "TrunkYards$Switchboard" "secondTrunks" "[I", .methodLink RX3 58 yX3_occupy, .instanceMethod yX3_occupy, .selects RX3 yX3_occupy yX3_occupy, .initialized RX3, .code yX3_occupy cX3_occupy 3 none, .fieldLink RX3 30 "TrunkYards$Switchboard" "trunks" "[I"] ++ wsX30)
def wsX4_init_r1 : List Cond := [Cond.methodLink RX4 3 objectInit, Cond.instanceMethod objectInit, Cond.code objectInit ⟨#[0xb1]⟩ 1 none, Cond.classLink RX4 9 RX2, Cond.instantiable RX2 2, Cond.initialized RX2, Cond.fieldLink RX4 12 "TrunkYards" "rows" "LTrunkYards$Rows;", Cond.fieldLink RX4 16 "TrunkYards" "replayed" "LTrunkYards$Rows;", Cond.classLink RX4 19 RX0, Cond.instantiable RX0 4, Cond.initialized RX0, Cond.fieldLink RX4 22 "TrunkYards" "history" "LTrunkYards$History;", Cond.classLink RX4 26 RX1, Cond.instantiable RX1 9, Cond.initialized RX1, Cond.fieldLink RX4 29 "TrunkYards" "ledger" "LTrunkYards$Ledger;", Cond.classLink RX4 33 RX3, Cond.instantiable RX3 9, Cond.initialized RX3, Cond.fieldLink RX4 36 "TrunkYards" "board" "LTrunkYards$Switchboard;", Cond.arrayClass .int, Cond.fieldLink RX4 40 "TrunkYards" "lastGrain" "[I", Cond.arrayClass .boolean, Cond.fieldLink RX4 50 "TrunkYards" "mayFollow" "[Z"]
def wsX4_init_r2 : List Cond := [Cond.fieldLink RX4 54 "TrunkYards" "destination" "[I", Cond.instanceMethod yX2_init, Cond.code yX2_init cX2_init 1 none, Cond.methodLink RX2 3 objectInit, Cond.fieldLink RX2 9 "TrunkYards$Rows" "counts" "[I", Cond.fieldLink RX2 15 "TrunkYards$Rows" "standing" "[I", Cond.instanceMethod yX0_init, Cond.code yX0_init cX0_init 1 none, Cond.methodLink RX0 3 objectInit, Cond.fieldLink RX0 9 "TrunkYards$History" "from" "[I", Cond.fieldLink RX0 15 "TrunkYards$History" "to" "[I", Cond.fieldLink RX0 18 "TrunkYards$History" "many" "[I", Cond.methodLink RX4 28 yX1_init, Cond.instanceMethod yX1_init, Cond.code yX1_init cX1_init 1 none, Cond.methodLink RX1 3 objectInit, Cond.fieldLink RX1 9 "TrunkYards$Ledger" "customers" "[I", Cond.fieldLink RX1 15 "TrunkYards$Ledger" "yards" "[I", Cond.fieldLink RX1 18 "TrunkYards$Ledger" "grains" "[I", Cond.fieldLink RX1 21 "TrunkYards$Ledger" "standings" "[I", Cond.fieldLink RX1 24 "TrunkYards$Ledger" "lapseTicks" "[I", Cond.fieldLink RX1 27 "TrunkYards$Ledger" "sizes" "[I", Cond.fieldLink RX1 30 "TrunkYards$Ledger" "booked" "[I", Cond.fieldLink RX1 33 "TrunkYards$Ledger" "bookingOfWagon" "[I"]
def wsX4_init_r3 : List Cond := [Cond.methodLink RX1 36 yJ7_fill_53178, Cond.static yJ7_fill_53178, Cond.initialized RJ7, Cond.code yJ7_fill_53178 cJ7_fill_53178 4 none, Cond.methodLink RX4 35 yX3_init, Cond.instanceMethod yX3_init, Cond.code yX3_init cX3_init 1 none, Cond.methodLink RX3 3 objectInit, Cond.fieldLink RX3 9 "TrunkYards$Switchboard" "customers" "[I", Cond.fieldLink RX3 15 "TrunkYards$Switchboard" "yards" "[I", Cond.fieldLink RX3 18 "TrunkYards$Switchboard" "openBookings" "[I", Cond.fieldLink RX3 21 "TrunkYards$Switchboard" "firstTrunks" "[I", Cond.fieldLink RX3 24 "TrunkYards$Switchboard" "secondTrunks" "[I", Cond.fieldLink RX3 27 "TrunkYards$Switchboard" "ongoingCalls" "[I", Cond.fieldLink RX3 30 "TrunkYards$Switchboard" "trunks" "[I", Cond.fieldLink RX3 33 "TrunkYards$Switchboard" "lineCounts" "[I", Cond.methodLink RX3 36 yJ7_fill_53178, Cond.methodLink RX4 44 yJ7_fill_53178]
def wsX4_init : List Cond := .code yX4_init cX4_init 1 none :: ((wsX4_init_r1 ++ (wsX4_init_r2 ++ wsX4_init_r3)) ++ wsX20 ++ wsX40 ++ wsX00 ++ wsX10 ++ wsX30)
def wsX4_isYard : List Cond := .code yX4_isYard cX4_isYard 1 (some .boolean) :: ([])
def wsX4_isTrack : List Cond := .code yX4_isTrack cX4_isTrack 1 (some .boolean) :: ([])
def wsX4_requireTrack : List Cond := .code yX4_requireTrack cX4_requireTrack 2 none :: ([.classLink RX4 86 "java/lang/IllegalArgumentException", .initialized "java/lang/IllegalArgumentException", .methodLink RX4 297 yX4_isYard, .static yX4_isYard, .initialized RX4, .code yX4_isYard cX4_isYard 1 (some .boolean), .methodLink RX4 287 yX4_isTrack, .static yX4_isTrack, .code yX4_isTrack cX4_isTrack 1 (some .boolean)] ++ (vx_atS RX4 90 "java/lang/IllegalArgumentException" ["java/lang/RuntimeException", "java/lang/Exception"]).filter goodWord)
def wsX4_rowOf : List Cond := .code yX4_rowOf cX4_rowOf 2 (some .int) :: ([])
def wsX4_wagon_r1 : List Cond := [Cond.classLink RX4 73 "java/lang/IllegalStateException", Cond.initialized "java/lang/IllegalStateException", Cond.fieldLink RX4 65 "TrunkYards" "placed" "I", Cond.fieldLink RX4 12 "TrunkYards" "rows" "LTrunkYards$Rows;", Cond.fieldLink RX4 22 "TrunkYards" "history" "LTrunkYards$History;", Cond.methodLink RX4 57 yX4_requireTrack, Cond.static yX4_requireTrack, Cond.initialized RX4, Cond.code yX4_requireTrack cX4_requireTrack 2 none, Cond.classLink RX4 86 "java/lang/IllegalArgumentException", Cond.initialized "java/lang/IllegalArgumentException", Cond.methodLink RX4 297 yX4_isYard, Cond.static yX4_isYard, Cond.code yX4_isYard cX4_isYard 1 (some .boolean), Cond.methodLink RX4 287 yX4_isTrack, Cond.static yX4_isTrack, Cond.code yX4_isTrack cX4_isTrack 1 (some .boolean), Cond.methodLink RX4 61 yX4_rowOf, Cond.static yX4_rowOf, Cond.code yX4_rowOf cX4_rowOf 2 (some .int), Cond.methodLink RX4 69 yX2_hasRoom, Cond.instanceMethod yX2_hasRoom, Cond.selects RX2 yX2_hasRoom yX2_hasRoom, Cond.initialized RX2]
def wsX4_wagon_r2 : List Cond := [Cond.code yX2_hasRoom cX2_hasRoom 3 (some .boolean), Cond.fieldLink RX2 9 "TrunkYards$Rows" "counts" "[I", Cond.methodLink RX4 80 yX2_put, Cond.instanceMethod yX2_put, Cond.selects RX2 yX2_put yX2_put, Cond.code yX2_put cX2_put 3 none, Cond.fieldLink RX2 15 "TrunkYards$Rows" "standing" "[I", Cond.methodLink RX4 83 yX0_notePlacing, Cond.instanceMethod yX0_notePlacing, Cond.selects RX0 yX0_notePlacing yX0_notePlacing, Cond.initialized RX0, Cond.code yX0_notePlacing cX0_notePlacing 3 none, Cond.methodLink RX0 21 yX0_noteMove, Cond.instanceMethod yX0_noteMove, Cond.selects RX0 yX0_noteMove yX0_noteMove, Cond.code yX0_noteMove cX0_noteMove 4 none, Cond.fieldLink RX0 25 "TrunkYards$History" "noted" "I", Cond.fieldLink RX0 9 "TrunkYards$History" "from" "[I", Cond.fieldLink RX0 15 "TrunkYards$History" "to" "[I", Cond.fieldLink RX0 18 "TrunkYards$History" "many" "[I"]
def wsX4_wagon : List Cond := .code yX4_wagon cX4_wagon 5 (some .int) :: ((wsX4_wagon_r1 ++ wsX4_wagon_r2) ++ wsX40 ++ wsX20 ++ wsX00 ++ (vx_atS RX4 77 "java/lang/IllegalStateException" ["java/lang/RuntimeException", "java/lang/Exception"]).filter goodWord ++ (vx_atS RX4 90 "java/lang/IllegalArgumentException" ["java/lang/RuntimeException", "java/lang/Exception"]).filter goodWord)
def wsX4_moveLast : List Cond := .code yX4_moveLast cX4_moveLast 4 none :: ([.fieldLink RX4 12 "TrunkYards" "rows" "LTrunkYards$Rows;", .fieldLink RX4 22 "TrunkYards" "history" "LTrunkYards$History;", .methodLink RX4 327 yX2_move, .instanceMethod yX2_move, .selects RX2 yX2_move yX2_move, .initialized RX2, .code yX2_move cX2_move 7 none, .fieldLink RX2 9 "TrunkYards$Rows" "counts" "[I", .fieldLink RX2 15 "TrunkYards$Rows" "standing" "[I", .methodLink RX4 330 yX0_noteMove, .instanceMethod yX0_noteMove, .selects RX0 yX0_noteMove yX0_noteMove, .initialized RX0, .code yX0_noteMove cX0_noteMove 4 none, .fieldLink RX0 25 "TrunkYards$History" "noted" "I", .fieldLink RX0 9 "TrunkYards$History" "from" "[I", .fieldLink RX0 15 "TrunkYards$History" "to" "[I", .fieldLink RX0 18 "TrunkYards$History" "many" "[I"] ++ wsX40 ++ wsX20 ++ wsX00)
def wsX4_shunt_r1 : List Cond := [Cond.classLink RX4 86 "java/lang/IllegalArgumentException", Cond.initialized "java/lang/IllegalArgumentException", Cond.classLink RX4 73 "java/lang/IllegalStateException", Cond.initialized "java/lang/IllegalStateException", Cond.fieldLink RX4 12 "TrunkYards" "rows" "LTrunkYards$Rows;", Cond.methodLink RX4 57 yX4_requireTrack, Cond.static yX4_requireTrack, Cond.initialized RX4, Cond.code yX4_requireTrack cX4_requireTrack 2 none, Cond.methodLink RX4 297 yX4_isYard, Cond.static yX4_isYard, Cond.code yX4_isYard cX4_isYard 1 (some .boolean), Cond.methodLink RX4 287 yX4_isTrack, Cond.static yX4_isTrack, Cond.code yX4_isTrack cX4_isTrack 1 (some .boolean), Cond.methodLink RX4 61 yX4_rowOf, Cond.static yX4_rowOf, Cond.code yX4_rowOf cX4_rowOf 2 (some .int), Cond.methodLink RX4 91 yX2_count, Cond.instanceMethod yX2_count, Cond.selects RX2 yX2_count yX2_count, Cond.initialized RX2, Cond.code yX2_count cX2_count 2 (some .int), Cond.fieldLink RX2 9 "TrunkYards$Rows" "counts" "[I"]
def wsX4_shunt_r2 : List Cond := [Cond.methodLink RX4 69 yX2_hasRoom, Cond.instanceMethod yX2_hasRoom, Cond.selects RX2 yX2_hasRoom yX2_hasRoom, Cond.code yX2_hasRoom cX2_hasRoom 3 (some .boolean), Cond.methodLink RX4 97 yX4_moveLast, Cond.instanceMethod yX4_moveLast, Cond.selects RX4 yX4_moveLast yX4_moveLast, Cond.code yX4_moveLast cX4_moveLast 4 none, Cond.fieldLink RX4 22 "TrunkYards" "history" "LTrunkYards$History;", Cond.methodLink RX4 327 yX2_move, Cond.instanceMethod yX2_move, Cond.selects RX2 yX2_move yX2_move, Cond.code yX2_move cX2_move 7 none, Cond.fieldLink RX2 15 "TrunkYards$Rows" "standing" "[I", Cond.methodLink RX4 330 yX0_noteMove, Cond.instanceMethod yX0_noteMove, Cond.selects RX0 yX0_noteMove yX0_noteMove, Cond.initialized RX0, Cond.code yX0_noteMove cX0_noteMove 4 none, Cond.fieldLink RX0 25 "TrunkYards$History" "noted" "I", Cond.fieldLink RX0 9 "TrunkYards$History" "from" "[I", Cond.fieldLink RX0 15 "TrunkYards$History" "to" "[I", Cond.fieldLink RX0 18 "TrunkYards$History" "many" "[I"]
def wsX4_shunt : List Cond := .code yX4_shunt cX4_shunt 7 (some .int) :: ((wsX4_shunt_r1 ++ wsX4_shunt_r2) ++ wsX40 ++ wsX20 ++ wsX00 ++ (vx_atS RX4 90 "java/lang/IllegalArgumentException" ["java/lang/RuntimeException", "java/lang/Exception"]).filter goodWord ++ (vx_atS RX4 77 "java/lang/IllegalStateException" ["java/lang/RuntimeException", "java/lang/Exception"]).filter goodWord)
def wsX4_requireYard : List Cond := .code yX4_requireYard cX4_requireYard 1 none :: ([.classLink RX4 86 "java/lang/IllegalArgumentException", .initialized "java/lang/IllegalArgumentException", .methodLink RX4 297 yX4_isYard, .static yX4_isYard, .initialized RX4, .code yX4_isYard cX4_isYard 1 (some .boolean)] ++ (vx_atS RX4 90 "java/lang/IllegalArgumentException" ["java/lang/RuntimeException", "java/lang/Exception"]).filter goodWord)
def wsX4_wash_r1 : List Cond := [Cond.classLink RX4 73 "java/lang/IllegalStateException", Cond.initialized "java/lang/IllegalStateException", Cond.fieldLink RX4 12 "TrunkYards" "rows" "LTrunkYards$Rows;", Cond.fieldLink RX4 40 "TrunkYards" "lastGrain" "[I", Cond.methodLink RX4 101 yX4_requireYard, Cond.static yX4_requireYard, Cond.initialized RX4, Cond.code yX4_requireYard cX4_requireYard 1 none, Cond.classLink RX4 86 "java/lang/IllegalArgumentException", Cond.initialized "java/lang/IllegalArgumentException", Cond.methodLink RX4 297 yX4_isYard, Cond.static yX4_isYard, Cond.code yX4_isYard cX4_isYard 1 (some .boolean), Cond.methodLink RX4 61 yX4_rowOf, Cond.static yX4_rowOf, Cond.code yX4_rowOf cX4_rowOf 2 (some .int), Cond.methodLink RX4 91 yX2_count, Cond.instanceMethod yX2_count, Cond.selects RX2 yX2_count yX2_count, Cond.initialized RX2, Cond.code yX2_count cX2_count 2 (some .int), Cond.fieldLink RX2 9 "TrunkYards$Rows" "counts" "[I", Cond.methodLink RX4 107 yX2_get, Cond.instanceMethod yX2_get]
def wsX4_wash_r2 : List Cond := [Cond.selects RX2 yX2_get yX2_get, Cond.code yX2_get cX2_get 3 (some .int), Cond.fieldLink RX2 15 "TrunkYards$Rows" "standing" "[I"]
def wsX4_wash : List Cond := .code yX4_wash cX4_wash 6 (some .int) :: ((wsX4_wash_r1 ++ wsX4_wash_r2) ++ wsX40 ++ wsX20 ++ (vx_atS RX4 77 "java/lang/IllegalStateException" ["java/lang/RuntimeException", "java/lang/Exception"]).filter goodWord ++ (vx_atS RX4 90 "java/lang/IllegalArgumentException" ["java/lang/RuntimeException", "java/lang/Exception"]).filter goodWord)
def wsX4_isGrain : List Cond := .code yX4_isGrain cX4_isGrain 1 (some .boolean) :: ([])
def wsX4_follow : List Cond := .code yX4_follow cX4_follow 4 (some .boolean) :: ([.classLink RX4 86 "java/lang/IllegalArgumentException", .initialized "java/lang/IllegalArgumentException", .fieldLink RX4 50 "TrunkYards" "mayFollow" "[Z", .methodLink RX4 110 yX4_isGrain, .static yX4_isGrain, .initialized RX4, .code yX4_isGrain cX4_isGrain 1 (some .boolean)] ++ wsX40 ++ (vx_atS RX4 90 "java/lang/IllegalArgumentException" ["java/lang/RuntimeException", "java/lang/Exception"]).filter goodWord)
def wsX4_on : List Cond := .code yX4_on cX4_on 3 (some .int) :: ([.fieldLink RX4 12 "TrunkYards" "rows" "LTrunkYards$Rows;", .methodLink RX4 57 yX4_requireTrack, .static yX4_requireTrack, .initialized RX4, .code yX4_requireTrack cX4_requireTrack 2 none, .classLink RX4 86 "java/lang/IllegalArgumentException", .initialized "java/lang/IllegalArgumentException", .methodLink RX4 297 yX4_isYard, .static yX4_isYard, .code yX4_isYard cX4_isYard 1 (some .boolean), .methodLink RX4 287 yX4_isTrack, .static yX4_isTrack, .code yX4_isTrack cX4_isTrack 1 (some .boolean), .methodLink RX4 61 yX4_rowOf, .static yX4_rowOf, .code yX4_rowOf cX4_rowOf 2 (some .int), .methodLink RX4 91 yX2_count, .instanceMethod yX2_count, .selects RX2 yX2_count yX2_count, .initialized RX2, .code yX2_count cX2_count 2 (some .int), .fieldLink RX2 9 "TrunkYards$Rows" "counts" "[I"] ++ wsX40 ++ wsX20 ++ (vx_atS RX4 90 "java/lang/IllegalArgumentException" ["java/lang/RuntimeException", "java/lang/Exception"]).filter goodWord)
def wsX4_wagonIn : List Cond := .code yX4_wagonIn cX4_wagonIn 3 (some .int) :: ([.classLink RX4 261 "java/lang/IndexOutOfBoundsException", .initialized "java/lang/IndexOutOfBoundsException", .methodLink RX4 91 yX2_count, .instanceMethod yX2_count, .selects RX2 yX2_count yX2_count, .initialized RX2, .code yX2_count cX2_count 2 (some .int), .fieldLink RX2 9 "TrunkYards$Rows" "counts" "[I", .methodLink RX4 107 yX2_get, .instanceMethod yX2_get, .selects RX2 yX2_get yX2_get, .code yX2_get cX2_get 3 (some .int), .fieldLink RX2 15 "TrunkYards$Rows" "standing" "[I"] ++ wsX20 ++ (vx_atS RX4 265 "java/lang/IndexOutOfBoundsException" ["java/lang/RuntimeException", "java/lang/Exception"]).filter goodWord)
def wsX4_at_r1 : List Cond := [Cond.fieldLink RX4 12 "TrunkYards" "rows" "LTrunkYards$Rows;", Cond.methodLink RX4 57 yX4_requireTrack, Cond.static yX4_requireTrack, Cond.initialized RX4, Cond.code yX4_requireTrack cX4_requireTrack 2 none, Cond.classLink RX4 86 "java/lang/IllegalArgumentException", Cond.initialized "java/lang/IllegalArgumentException", Cond.methodLink RX4 297 yX4_isYard, Cond.static yX4_isYard, Cond.code yX4_isYard cX4_isYard 1 (some .boolean), Cond.methodLink RX4 287 yX4_isTrack, Cond.static yX4_isTrack, Cond.code yX4_isTrack cX4_isTrack 1 (some .boolean), Cond.methodLink RX4 61 yX4_rowOf, Cond.static yX4_rowOf, Cond.code yX4_rowOf cX4_rowOf 2 (some .int), Cond.methodLink RX4 116 yX4_wagonIn, Cond.static yX4_wagonIn, Cond.code yX4_wagonIn cX4_wagonIn 3 (some .int), Cond.classLink RX4 261 "java/lang/IndexOutOfBoundsException", Cond.initialized "java/lang/IndexOutOfBoundsException", Cond.methodLink RX4 91 yX2_count, Cond.instanceMethod yX2_count, Cond.selects RX2 yX2_count yX2_count]
def wsX4_at_r2 : List Cond := [Cond.initialized RX2, Cond.code yX2_count cX2_count 2 (some .int), Cond.fieldLink RX2 9 "TrunkYards$Rows" "counts" "[I", Cond.methodLink RX4 107 yX2_get, Cond.instanceMethod yX2_get, Cond.selects RX2 yX2_get yX2_get, Cond.code yX2_get cX2_get 3 (some .int), Cond.fieldLink RX2 15 "TrunkYards$Rows" "standing" "[I"]
def wsX4_at : List Cond := .code yX4_at cX4_at 4 (some .int) :: ((wsX4_at_r1 ++ wsX4_at_r2) ++ wsX40 ++ wsX20 ++ (vx_atS RX4 90 "java/lang/IllegalArgumentException" ["java/lang/RuntimeException", "java/lang/Exception"]).filter goodWord ++ (vx_atS RX4 265 "java/lang/IndexOutOfBoundsException" ["java/lang/RuntimeException", "java/lang/Exception"]).filter goodWord)
def wsX4_atByReplay_r1 : List Cond := [Cond.fieldLink RX4 22 "TrunkYards" "history" "LTrunkYards$History;", Cond.fieldLink RX4 16 "TrunkYards" "replayed" "LTrunkYards$Rows;", Cond.methodLink RX4 57 yX4_requireTrack, Cond.static yX4_requireTrack, Cond.initialized RX4, Cond.code yX4_requireTrack cX4_requireTrack 2 none, Cond.classLink RX4 86 "java/lang/IllegalArgumentException", Cond.initialized "java/lang/IllegalArgumentException", Cond.methodLink RX4 297 yX4_isYard, Cond.static yX4_isYard, Cond.code yX4_isYard cX4_isYard 1 (some .boolean), Cond.methodLink RX4 287 yX4_isTrack, Cond.static yX4_isTrack, Cond.code yX4_isTrack cX4_isTrack 1 (some .boolean), Cond.methodLink RX4 120 yX0_replay, Cond.instanceMethod yX0_replay, Cond.selects RX0 yX0_replay yX0_replay, Cond.initialized RX0, Cond.code yX0_replay cX0_replay 3 none, Cond.fieldLink RX0 25 "TrunkYards$History" "noted" "I", Cond.fieldLink RX0 9 "TrunkYards$History" "from" "[I", Cond.fieldLink RX0 15 "TrunkYards$History" "to" "[I", Cond.fieldLink RX0 18 "TrunkYards$History" "many" "[I", Cond.methodLink RX0 29 yX2_clear]
def wsX4_atByReplay_r2 : List Cond := [Cond.instanceMethod yX2_clear, Cond.selects RX2 yX2_clear yX2_clear, Cond.initialized RX2, Cond.code yX2_clear cX2_clear 1 none, Cond.fieldLink RX2 9 "TrunkYards$Rows" "counts" "[I", Cond.methodLink RX2 22 yJ7_fill_53178, Cond.static yJ7_fill_53178, Cond.initialized RJ7, Cond.code yJ7_fill_53178 cJ7_fill_53178 4 none, Cond.methodLink RX0 34 yX2_put, Cond.instanceMethod yX2_put, Cond.selects RX2 yX2_put yX2_put, Cond.code yX2_put cX2_put 3 none, Cond.fieldLink RX2 15 "TrunkYards$Rows" "standing" "[I", Cond.methodLink RX0 38 yX2_move, Cond.instanceMethod yX2_move, Cond.selects RX2 yX2_move yX2_move, Cond.code yX2_move cX2_move 7 none, Cond.methodLink RX4 61 yX4_rowOf, Cond.static yX4_rowOf, Cond.code yX4_rowOf cX4_rowOf 2 (some .int), Cond.methodLink RX4 116 yX4_wagonIn, Cond.static yX4_wagonIn, Cond.code yX4_wagonIn cX4_wagonIn 3 (some .int)]
def wsX4_atByReplay_r3 : List Cond := [Cond.classLink RX4 261 "java/lang/IndexOutOfBoundsException", Cond.initialized "java/lang/IndexOutOfBoundsException", Cond.methodLink RX4 91 yX2_count, Cond.instanceMethod yX2_count, Cond.selects RX2 yX2_count yX2_count, Cond.code yX2_count cX2_count 2 (some .int), Cond.methodLink RX4 107 yX2_get, Cond.instanceMethod yX2_get, Cond.selects RX2 yX2_get yX2_get, Cond.code yX2_get cX2_get 3 (some .int)]
def wsX4_atByReplay : List Cond := .code yX4_atByReplay cX4_atByReplay 4 (some .int) :: ((wsX4_atByReplay_r1 ++ (wsX4_atByReplay_r2 ++ wsX4_atByReplay_r3)) ++ wsX40 ++ wsX00 ++ wsX20 ++ (vx_atS RX4 90 "java/lang/IllegalArgumentException" ["java/lang/RuntimeException", "java/lang/Exception"]).filter goodWord ++ (vx_atS RX4 265 "java/lang/IndexOutOfBoundsException" ["java/lang/RuntimeException", "java/lang/Exception"]).filter goodWord)
def wsX4_requireWagon : List Cond := .code yX4_requireWagon cX4_requireWagon 2 none :: ([.classLink RX4 261 "java/lang/IndexOutOfBoundsException", .initialized "java/lang/IndexOutOfBoundsException", .fieldLink RX4 65 "TrunkYards" "placed" "I"] ++ wsX40 ++ (vx_atS RX4 265 "java/lang/IndexOutOfBoundsException" ["java/lang/RuntimeException", "java/lang/Exception"]).filter goodWord)
def wsX4_where : List Cond := .code yX4_where cX4_where 3 (some .int) :: ([.fieldLink RX4 12 "TrunkYards" "rows" "LTrunkYards$Rows;", .methodLink RX4 124 yX4_requireWagon, .instanceMethod yX4_requireWagon, .selects RX4 yX4_requireWagon yX4_requireWagon, .initialized RX4, .code yX4_requireWagon cX4_requireWagon 2 none, .classLink RX4 261 "java/lang/IndexOutOfBoundsException", .initialized "java/lang/IndexOutOfBoundsException", .fieldLink RX4 65 "TrunkYards" "placed" "I", .methodLink RX4 127 yX2_findOnTracks, .instanceMethod yX2_findOnTracks, .selects RX2 yX2_findOnTracks yX2_findOnTracks, .initialized RX2, .code yX2_findOnTracks cX2_findOnTracks 4 (some .int), .fieldLink RX2 9 "TrunkYards$Rows" "counts" "[I", .methodLink RX2 18 yX2_get, .instanceMethod yX2_get, .selects RX2 yX2_get yX2_get, .code yX2_get cX2_get 3 (some .int), .fieldLink RX2 15 "TrunkYards$Rows" "standing" "[I"] ++ wsX40 ++ wsX20 ++ (vx_atS RX4 265 "java/lang/IndexOutOfBoundsException" ["java/lang/RuntimeException", "java/lang/Exception"]).filter goodWord)
def wsX4_carried : List Cond := .code yX4_carried cX4_carried 2 (some .int) :: ([.fieldLink RX4 40 "TrunkYards" "lastGrain" "[I", .methodLink RX4 124 yX4_requireWagon, .instanceMethod yX4_requireWagon, .selects RX4 yX4_requireWagon yX4_requireWagon, .initialized RX4, .code yX4_requireWagon cX4_requireWagon 2 none, .classLink RX4 261 "java/lang/IndexOutOfBoundsException", .initialized "java/lang/IndexOutOfBoundsException", .fieldLink RX4 65 "TrunkYards" "placed" "I"] ++ wsX40 ++ (vx_atS RX4 265 "java/lang/IndexOutOfBoundsException" ["java/lang/RuntimeException", "java/lang/Exception"]).filter goodWord)
def wsX4_promised : List Cond := .code yX4_promised cX4_promised 2 (some .int) :: ([.fieldLink RX4 29 "TrunkYards" "ledger" "LTrunkYards$Ledger;", .methodLink RX4 124 yX4_requireWagon, .instanceMethod yX4_requireWagon, .selects RX4 yX4_requireWagon yX4_requireWagon, .initialized RX4, .code yX4_requireWagon cX4_requireWagon 2 none, .classLink RX4 261 "java/lang/IndexOutOfBoundsException", .initialized "java/lang/IndexOutOfBoundsException", .fieldLink RX4 65 "TrunkYards" "placed" "I", .methodLink RX4 130 yX1_bookingFor, .instanceMethod yX1_bookingFor, .selects RX1 yX1_bookingFor yX1_bookingFor, .initialized RX1, .code yX1_bookingFor cX1_bookingFor 2 (some .int), .fieldLink RX1 33 "TrunkYards$Ledger" "bookingOfWagon" "[I"] ++ wsX40 ++ wsX10 ++ (vx_atS RX4 265 "java/lang/IndexOutOfBoundsException" ["java/lang/RuntimeException", "java/lang/Exception"]).filter goodWord)
def wsX4_requireCustomer : List Cond := .code yX4_requireCustomer cX4_requireCustomer 1 none :: ([.classLink RX4 86 "java/lang/IllegalArgumentException", .initialized "java/lang/IllegalArgumentException"] ++ (vx_atS RX4 90 "java/lang/IllegalArgumentException" ["java/lang/RuntimeException", "java/lang/Exception"]).filter goodWord)
def wsX4_call_r1 : List Cond := [Cond.classLink RX4 73 "java/lang/IllegalStateException", Cond.initialized "java/lang/IllegalStateException", Cond.fieldLink RX4 36 "TrunkYards" "board" "LTrunkYards$Switchboard;", Cond.fieldLink RX4 148 "TrunkYards" "busyCalls" "I", Cond.methodLink RX4 133 yX4_requireCustomer, Cond.static yX4_requireCustomer, Cond.initialized RX4, Cond.code yX4_requireCustomer cX4_requireCustomer 1 none, Cond.classLink RX4 86 "java/lang/IllegalArgumentException", Cond.initialized "java/lang/IllegalArgumentException", Cond.methodLink RX4 101 yX4_requireYard, Cond.static yX4_requireYard, Cond.code yX4_requireYard cX4_requireYard 1 none, Cond.methodLink RX4 297 yX4_isYard, Cond.static yX4_isYard, Cond.code yX4_isYard cX4_isYard 1 (some .boolean), Cond.methodLink RX4 136 yX3_ongoing, Cond.instanceMethod yX3_ongoing, Cond.selects RX3 yX3_ongoing yX3_ongoing, Cond.initialized RX3, Cond.code yX3_ongoing cX3_ongoing 2 (some .int), Cond.fieldLink RX3 27 "TrunkYards$Switchboard" "ongoingCalls" "[I", Cond.methodLink RX4 139 yX3_isFull, Cond.instanceMethod yX3_isFull]
def wsX4_call_r2 : List Cond := [Cond.selects RX3 yX3_isFull yX3_isFull, Cond.code yX3_isFull cX3_isFull 1 (some .boolean), Cond.fieldLink RX3 42 "TrunkYards$Switchboard" "begun" "I", Cond.methodLink RX4 145 yX3_begin, Cond.instanceMethod yX3_begin, Cond.selects RX3 yX3_begin yX3_begin, Cond.code yX3_begin cX3_begin 8 (some .int), Cond.fieldLink RX3 33 "TrunkYards$Switchboard" "lineCounts" "[I", Cond.methodLink RX3 46 yX3_callsTo, Cond.instanceMethod yX3_callsTo, Cond.selects RX3 yX3_callsTo yX3_callsTo, Cond.code yX3_callsTo cX3_callsTo 5 (some .int), Cond.fieldLink RX3 15 "TrunkYards$Switchboard" "yards" "[I", Cond.methodLink RX3 50 yX3_connect, Cond.instanceMethod yX3_connect, Cond.selects RX3 yX3_connect yX3_connect, Cond.code yX3_connect cX3_connect 6 (some .int), Cond.fieldLink RX3 9 "TrunkYards$Switchboard" "customers" "[I", Cond.fieldLink RX3 18 "TrunkYards$Switchboard" "openBookings" "[I", Cond.fieldLink RX3 21 "TrunkYards$Switchboard" "firstTrunks" "[I", Cond.fieldLink RX3 24 "TrunkYards$Switchboard" "secondTrunks" "[I", Cond.methodLink RX3 58 yX3_occupy, Cond.instanceMethod yX3_occupy, Cond.selects RX3 yX3_occupy yX3_occupy]
def wsX4_call_r3 : List Cond := [Cond.code yX3_occupy cX3_occupy 3 none, Cond.fieldLink RX3 30 "TrunkYards$Switchboard" "trunks" "[I", Cond.methodLink RX3 54 yX3_freeTrunk, Cond.instanceMethod yX3_freeTrunk, Cond.selects RX3 yX3_freeTrunk yX3_freeTrunk, Cond.code yX3_freeTrunk cX3_freeTrunk 5 (some .int), Cond.static yX4_slotOf, Cond.code yX4_slotOf cX4_slotOf 3 (some .int)]
def wsX4_call : List Cond := .code yX4_call cX4_call 4 (some .int) :: ((wsX4_call_r1 ++ (wsX4_call_r2 ++ wsX4_call_r3)) ++ wsX40 ++ wsX30 ++ (vx_atS RX4 77 "java/lang/IllegalStateException" ["java/lang/RuntimeException", "java/lang/Exception"]).filter goodWord ++ (vx_atS RX4 90 "java/lang/IllegalArgumentException" ["java/lang/RuntimeException", "java/lang/Exception"]).filter goodWord)
def wsX4_requireCall : List Cond := .code yX4_requireCall cX4_requireCall 2 none :: ([.classLink RX4 261 "java/lang/IndexOutOfBoundsException", .initialized "java/lang/IndexOutOfBoundsException", .fieldLink RX4 36 "TrunkYards" "board" "LTrunkYards$Switchboard;", .methodLink RX4 313 yX3_hasBegun, .instanceMethod yX3_hasBegun, .selects RX3 yX3_hasBegun yX3_hasBegun, .initialized RX3, .code yX3_hasBegun cX3_hasBegun 2 (some .boolean), .fieldLink RX3 42 "TrunkYards$Switchboard" "begun" "I"] ++ wsX40 ++ wsX30 ++ (vx_atS RX4 265 "java/lang/IndexOutOfBoundsException" ["java/lang/RuntimeException", "java/lang/Exception"]).filter goodWord)
def wsX4_requireOngoing : List Cond := .code yX4_requireOngoing cX4_requireOngoing 2 none :: ([.classLink RX4 73 "java/lang/IllegalStateException", .initialized "java/lang/IllegalStateException", .fieldLink RX4 36 "TrunkYards" "board" "LTrunkYards$Switchboard;", .methodLink RX4 318 yX3_goesOn, .instanceMethod yX3_goesOn, .selects RX3 yX3_goesOn yX3_goesOn, .initialized RX3, .code yX3_goesOn cX3_goesOn 2 (some .boolean), .fieldLink RX3 27 "TrunkYards$Switchboard" "ongoingCalls" "[I", .fieldLink RX3 9 "TrunkYards$Switchboard" "customers" "[I"] ++ wsX40 ++ wsX30 ++ (vx_atS RX4 77 "java/lang/IllegalStateException" ["java/lang/RuntimeException", "java/lang/Exception"]).filter goodWord)
def wsX4_fits : List Cond := .code yX4_fits cX4_fits 4 (some .boolean) :: ([.fieldLink RX4 40 "TrunkYards" "lastGrain" "[I", .fieldLink RX4 50 "TrunkYards" "mayFollow" "[Z"] ++ wsX40)
def wsX4_findWagon_r1 : List Cond := [Cond.fieldLink RX4 12 "TrunkYards" "rows" "LTrunkYards$Rows;", Cond.fieldLink RX4 29 "TrunkYards" "ledger" "LTrunkYards$Ledger;", Cond.methodLink RX4 61 yX4_rowOf, Cond.static yX4_rowOf, Cond.initialized RX4, Cond.code yX4_rowOf cX4_rowOf 2 (some .int), Cond.methodLink RX4 91 yX2_count, Cond.instanceMethod yX2_count, Cond.selects RX2 yX2_count yX2_count, Cond.initialized RX2, Cond.code yX2_count cX2_count 2 (some .int), Cond.fieldLink RX2 9 "TrunkYards$Rows" "counts" "[I", Cond.methodLink RX4 107 yX2_get, Cond.instanceMethod yX2_get, Cond.selects RX2 yX2_get yX2_get, Cond.code yX2_get cX2_get 3 (some .int), Cond.fieldLink RX2 15 "TrunkYards$Rows" "standing" "[I", Cond.methodLink RX4 130 yX1_bookingFor, Cond.instanceMethod yX1_bookingFor, Cond.selects RX1 yX1_bookingFor yX1_bookingFor, Cond.initialized RX1, Cond.code yX1_bookingFor cX1_bookingFor 2 (some .int), Cond.fieldLink RX1 33 "TrunkYards$Ledger" "bookingOfWagon" "[I", Cond.methodLink RX4 333 yX4_fits]
def wsX4_findWagon_r2 : List Cond := [Cond.instanceMethod yX4_fits, Cond.selects RX4 yX4_fits yX4_fits, Cond.code yX4_fits cX4_fits 4 (some .boolean), Cond.fieldLink RX4 40 "TrunkYards" "lastGrain" "[I", Cond.fieldLink RX4 50 "TrunkYards" "mayFollow" "[Z"]
def wsX4_findWagon : List Cond := .code yX4_findWagon cX4_findWagon 8 (some .int) :: ((wsX4_findWagon_r1 ++ wsX4_findWagon_r2) ++ wsX40 ++ wsX20 ++ wsX10)
def wsX4_ask_r1 : List Cond := [Cond.classLink RX4 86 "java/lang/IllegalArgumentException", Cond.initialized "java/lang/IllegalArgumentException", Cond.classLink RX4 73 "java/lang/IllegalStateException", Cond.initialized "java/lang/IllegalStateException", Cond.fieldLink RX4 36 "TrunkYards" "board" "LTrunkYards$Switchboard;", Cond.fieldLink RX4 29 "TrunkYards" "ledger" "LTrunkYards$Ledger;", Cond.methodLink RX4 151 yX4_requireCall, Cond.instanceMethod yX4_requireCall, Cond.selects RX4 yX4_requireCall yX4_requireCall, Cond.initialized RX4, Cond.code yX4_requireCall cX4_requireCall 2 none, Cond.classLink RX4 261 "java/lang/IndexOutOfBoundsException", Cond.initialized "java/lang/IndexOutOfBoundsException", Cond.methodLink RX4 313 yX3_hasBegun, Cond.instanceMethod yX3_hasBegun, Cond.selects RX3 yX3_hasBegun yX3_hasBegun, Cond.initialized RX3, Cond.code yX3_hasBegun cX3_hasBegun 2 (some .boolean), Cond.fieldLink RX3 42 "TrunkYards$Switchboard" "begun" "I", Cond.methodLink RX4 110 yX4_isGrain, Cond.static yX4_isGrain, Cond.code yX4_isGrain cX4_isGrain 1 (some .boolean), Cond.methodLink RX4 156 yX4_requireOngoing, Cond.instanceMethod yX4_requireOngoing]
def wsX4_ask_r2 : List Cond := [Cond.selects RX4 yX4_requireOngoing yX4_requireOngoing, Cond.code yX4_requireOngoing cX4_requireOngoing 2 none, Cond.methodLink RX4 318 yX3_goesOn, Cond.instanceMethod yX3_goesOn, Cond.selects RX3 yX3_goesOn yX3_goesOn, Cond.code yX3_goesOn cX3_goesOn 2 (some .boolean), Cond.fieldLink RX3 27 "TrunkYards$Switchboard" "ongoingCalls" "[I", Cond.fieldLink RX3 9 "TrunkYards$Switchboard" "customers" "[I", Cond.methodLink RX4 159 yX3_openBooking, Cond.instanceMethod yX3_openBooking, Cond.selects RX3 yX3_openBooking yX3_openBooking, Cond.code yX3_openBooking cX3_openBooking 2 (some .int), Cond.fieldLink RX3 18 "TrunkYards$Switchboard" "openBookings" "[I", Cond.methodLink RX4 162 yX1_isFull, Cond.instanceMethod yX1_isFull, Cond.selects RX1 yX1_isFull yX1_isFull, Cond.initialized RX1, Cond.code yX1_isFull cX1_isFull 1 (some .boolean), Cond.fieldLink RX1 42 "TrunkYards$Ledger" "count" "I", Cond.methodLink RX4 163 yX1_grain, Cond.instanceMethod yX1_grain, Cond.selects RX1 yX1_grain yX1_grain, Cond.code yX1_grain cX1_grain 2 (some .int), Cond.fieldLink RX1 18 "TrunkYards$Ledger" "grains" "[I"]
def wsX4_ask_r3 : List Cond := [Cond.methodLink RX4 168 yX3_yard, Cond.instanceMethod yX3_yard, Cond.selects RX3 yX3_yard yX3_yard, Cond.code yX3_yard cX3_yard 2 (some .int), Cond.fieldLink RX3 15 "TrunkYards$Switchboard" "yards" "[I", Cond.methodLink RX4 171 yX4_findWagon, Cond.instanceMethod yX4_findWagon, Cond.selects RX4 yX4_findWagon yX4_findWagon, Cond.code yX4_findWagon cX4_findWagon 8 (some .int), Cond.fieldLink RX4 12 "TrunkYards" "rows" "LTrunkYards$Rows;", Cond.methodLink RX4 61 yX4_rowOf, Cond.static yX4_rowOf, Cond.code yX4_rowOf cX4_rowOf 2 (some .int), Cond.methodLink RX4 91 yX2_count, Cond.instanceMethod yX2_count, Cond.selects RX2 yX2_count yX2_count, Cond.initialized RX2, Cond.code yX2_count cX2_count 2 (some .int), Cond.fieldLink RX2 9 "TrunkYards$Rows" "counts" "[I", Cond.methodLink RX4 107 yX2_get, Cond.instanceMethod yX2_get, Cond.selects RX2 yX2_get yX2_get, Cond.code yX2_get cX2_get 3 (some .int), Cond.fieldLink RX2 15 "TrunkYards$Rows" "standing" "[I"]
def wsX4_ask_r4 : List Cond := [Cond.methodLink RX4 130 yX1_bookingFor, Cond.instanceMethod yX1_bookingFor, Cond.selects RX1 yX1_bookingFor yX1_bookingFor, Cond.code yX1_bookingFor cX1_bookingFor 2 (some .int), Cond.fieldLink RX1 33 "TrunkYards$Ledger" "bookingOfWagon" "[I", Cond.methodLink RX4 333 yX4_fits, Cond.instanceMethod yX4_fits, Cond.selects RX4 yX4_fits yX4_fits, Cond.code yX4_fits cX4_fits 4 (some .boolean), Cond.fieldLink RX4 40 "TrunkYards" "lastGrain" "[I", Cond.fieldLink RX4 50 "TrunkYards" "mayFollow" "[Z", Cond.methodLink RX4 174 yX3_customer, Cond.instanceMethod yX3_customer, Cond.selects RX3 yX3_customer yX3_customer, Cond.code yX3_customer cX3_customer 2 (some .int), Cond.methodLink RX4 177 yX1_open, Cond.instanceMethod yX1_open, Cond.selects RX1 yX1_open yX1_open, Cond.code yX1_open cX1_open 5 (some .int), Cond.fieldLink RX1 9 "TrunkYards$Ledger" "customers" "[I", Cond.fieldLink RX1 15 "TrunkYards$Ledger" "yards" "[I", Cond.fieldLink RX1 21 "TrunkYards$Ledger" "standings" "[I", Cond.methodLink RX4 181 yX3_setOpenBooking, Cond.instanceMethod yX3_setOpenBooking]
def wsX4_ask_r5 : List Cond := [Cond.selects RX3 yX3_setOpenBooking yX3_setOpenBooking, Cond.code yX3_setOpenBooking cX3_setOpenBooking 3 none, Cond.methodLink RX4 184 yX1_add, Cond.instanceMethod yX1_add, Cond.selects RX1 yX1_add yX1_add, Cond.code yX1_add cX1_add 3 none, Cond.fieldLink RX1 30 "TrunkYards$Ledger" "booked" "[I", Cond.fieldLink RX1 27 "TrunkYards$Ledger" "sizes" "[I"]
def wsX4_ask : List Cond := .code yX4_ask cX4_ask 5 (some .int) :: ((wsX4_ask_r1 ++ (wsX4_ask_r2 ++ (wsX4_ask_r3 ++ (wsX4_ask_r4 ++ wsX4_ask_r5)))) ++ wsX40 ++ wsX30 ++ wsX10 ++ wsX20 ++ (vx_atS RX4 90 "java/lang/IllegalArgumentException" ["java/lang/RuntimeException", "java/lang/Exception"]).filter goodWord ++ (vx_atS RX4 77 "java/lang/IllegalStateException" ["java/lang/RuntimeException", "java/lang/Exception"]).filter goodWord ++ (vx_atS RX4 265 "java/lang/IndexOutOfBoundsException" ["java/lang/RuntimeException", "java/lang/Exception"]).filter goodWord)
def wsX4_confirm_r1 : List Cond := [Cond.classLink RX4 73 "java/lang/IllegalStateException", Cond.initialized "java/lang/IllegalStateException", Cond.fieldLink RX4 36 "TrunkYards" "board" "LTrunkYards$Switchboard;", Cond.fieldLink RX4 29 "TrunkYards" "ledger" "LTrunkYards$Ledger;", Cond.methodLink RX4 151 yX4_requireCall, Cond.instanceMethod yX4_requireCall, Cond.selects RX4 yX4_requireCall yX4_requireCall, Cond.initialized RX4, Cond.code yX4_requireCall cX4_requireCall 2 none, Cond.classLink RX4 261 "java/lang/IndexOutOfBoundsException", Cond.initialized "java/lang/IndexOutOfBoundsException", Cond.methodLink RX4 313 yX3_hasBegun, Cond.instanceMethod yX3_hasBegun, Cond.selects RX3 yX3_hasBegun yX3_hasBegun, Cond.initialized RX3, Cond.code yX3_hasBegun cX3_hasBegun 2 (some .boolean), Cond.fieldLink RX3 42 "TrunkYards$Switchboard" "begun" "I", Cond.methodLink RX4 156 yX4_requireOngoing, Cond.instanceMethod yX4_requireOngoing, Cond.selects RX4 yX4_requireOngoing yX4_requireOngoing, Cond.code yX4_requireOngoing cX4_requireOngoing 2 none, Cond.methodLink RX4 318 yX3_goesOn, Cond.instanceMethod yX3_goesOn, Cond.selects RX3 yX3_goesOn yX3_goesOn]
def wsX4_confirm_r2 : List Cond := [Cond.code yX3_goesOn cX3_goesOn 2 (some .boolean), Cond.fieldLink RX3 27 "TrunkYards$Switchboard" "ongoingCalls" "[I", Cond.fieldLink RX3 9 "TrunkYards$Switchboard" "customers" "[I", Cond.methodLink RX4 159 yX3_openBooking, Cond.instanceMethod yX3_openBooking, Cond.selects RX3 yX3_openBooking yX3_openBooking, Cond.code yX3_openBooking cX3_openBooking 2 (some .int), Cond.fieldLink RX3 18 "TrunkYards$Switchboard" "openBookings" "[I", Cond.methodLink RX4 189 yX1_keep, Cond.instanceMethod yX1_keep, Cond.selects RX1 yX1_keep yX1_keep, Cond.initialized RX1, Cond.code yX1_keep cX1_keep 3 none, Cond.fieldLink RX1 21 "TrunkYards$Ledger" "standings" "[I", Cond.methodLink RX4 181 yX3_setOpenBooking, Cond.instanceMethod yX3_setOpenBooking, Cond.selects RX3 yX3_setOpenBooking yX3_setOpenBooking, Cond.code yX3_setOpenBooking cX3_setOpenBooking 3 none]
def wsX4_confirm : List Cond := .code yX4_confirm cX4_confirm 3 (some .int) :: ((wsX4_confirm_r1 ++ wsX4_confirm_r2) ++ wsX40 ++ wsX30 ++ wsX10 ++ (vx_atS RX4 77 "java/lang/IllegalStateException" ["java/lang/RuntimeException", "java/lang/Exception"]).filter goodWord ++ (vx_atS RX4 265 "java/lang/IndexOutOfBoundsException" ["java/lang/RuntimeException", "java/lang/Exception"]).filter goodWord)
def wsX4_requireBooking : List Cond := .code yX4_requireBooking cX4_requireBooking 2 none :: ([.classLink RX4 261 "java/lang/IndexOutOfBoundsException", .initialized "java/lang/IndexOutOfBoundsException", .fieldLink RX4 29 "TrunkYards" "ledger" "LTrunkYards$Ledger;", .methodLink RX4 254 yX1_opened, .instanceMethod yX1_opened, .selects RX1 yX1_opened yX1_opened, .initialized RX1, .code yX1_opened cX1_opened 1 (some .int), .fieldLink RX1 42 "TrunkYards$Ledger" "count" "I"] ++ wsX40 ++ wsX10 ++ (vx_atS RX4 265 "java/lang/IndexOutOfBoundsException" ["java/lang/RuntimeException", "java/lang/Exception"]).filter goodWord)
def wsX4_isWithin_r1 : List Cond := [Cond.fieldLink RX4 29 "TrunkYards" "ledger" "LTrunkYards$Ledger;", Cond.fieldLink RX4 36 "TrunkYards" "board" "LTrunkYards$Switchboard;", Cond.methodLink RX4 258 yX1_standing, Cond.instanceMethod yX1_standing, Cond.selects RX1 yX1_standing yX1_standing, Cond.initialized RX1, Cond.code yX1_standing cX1_standing 2 (some .int), Cond.fieldLink RX1 21 "TrunkYards$Ledger" "standings" "[I", Cond.methodLink RX4 336 yX1_customer, Cond.instanceMethod yX1_customer, Cond.selects RX1 yX1_customer yX1_customer, Cond.code yX1_customer cX1_customer 2 (some .int), Cond.fieldLink RX1 9 "TrunkYards$Ledger" "customers" "[I", Cond.methodLink RX4 174 yX3_customer, Cond.instanceMethod yX3_customer, Cond.selects RX3 yX3_customer yX3_customer, Cond.initialized RX3, Cond.code yX3_customer cX3_customer 2 (some .int), Cond.fieldLink RX3 9 "TrunkYards$Switchboard" "customers" "[I", Cond.methodLink RX4 337 yX1_yard, Cond.instanceMethod yX1_yard, Cond.selects RX1 yX1_yard yX1_yard, Cond.code yX1_yard cX1_yard 2 (some .int), Cond.fieldLink RX1 15 "TrunkYards$Ledger" "yards" "[I"]
def wsX4_isWithin_r2 : List Cond := [Cond.methodLink RX4 168 yX3_yard, Cond.instanceMethod yX3_yard, Cond.selects RX3 yX3_yard yX3_yard, Cond.code yX3_yard cX3_yard 2 (some .int), Cond.fieldLink RX3 15 "TrunkYards$Switchboard" "yards" "[I"]
def wsX4_isWithin : List Cond := .code yX4_isWithin cX4_isWithin 4 (some .boolean) :: ((wsX4_isWithin_r1 ++ wsX4_isWithin_r2) ++ wsX40 ++ wsX10 ++ wsX30)
def wsX4_resume_r1 : List Cond := [Cond.classLink RX4 73 "java/lang/IllegalStateException", Cond.initialized "java/lang/IllegalStateException", Cond.fieldLink RX4 36 "TrunkYards" "board" "LTrunkYards$Switchboard;", Cond.fieldLink RX4 29 "TrunkYards" "ledger" "LTrunkYards$Ledger;", Cond.methodLink RX4 151 yX4_requireCall, Cond.instanceMethod yX4_requireCall, Cond.selects RX4 yX4_requireCall yX4_requireCall, Cond.initialized RX4, Cond.code yX4_requireCall cX4_requireCall 2 none, Cond.classLink RX4 261 "java/lang/IndexOutOfBoundsException", Cond.initialized "java/lang/IndexOutOfBoundsException", Cond.methodLink RX4 313 yX3_hasBegun, Cond.instanceMethod yX3_hasBegun, Cond.selects RX3 yX3_hasBegun yX3_hasBegun, Cond.initialized RX3, Cond.code yX3_hasBegun cX3_hasBegun 2 (some .boolean), Cond.fieldLink RX3 42 "TrunkYards$Switchboard" "begun" "I", Cond.methodLink RX4 192 yX4_requireBooking, Cond.instanceMethod yX4_requireBooking, Cond.selects RX4 yX4_requireBooking yX4_requireBooking, Cond.code yX4_requireBooking cX4_requireBooking 2 none, Cond.methodLink RX4 254 yX1_opened, Cond.instanceMethod yX1_opened, Cond.selects RX1 yX1_opened yX1_opened]
def wsX4_resume_r2 : List Cond := [Cond.initialized RX1, Cond.code yX1_opened cX1_opened 1 (some .int), Cond.fieldLink RX1 42 "TrunkYards$Ledger" "count" "I", Cond.methodLink RX4 156 yX4_requireOngoing, Cond.instanceMethod yX4_requireOngoing, Cond.selects RX4 yX4_requireOngoing yX4_requireOngoing, Cond.code yX4_requireOngoing cX4_requireOngoing 2 none, Cond.methodLink RX4 318 yX3_goesOn, Cond.instanceMethod yX3_goesOn, Cond.selects RX3 yX3_goesOn yX3_goesOn, Cond.code yX3_goesOn cX3_goesOn 2 (some .boolean), Cond.fieldLink RX3 27 "TrunkYards$Switchboard" "ongoingCalls" "[I", Cond.fieldLink RX3 9 "TrunkYards$Switchboard" "customers" "[I", Cond.methodLink RX4 159 yX3_openBooking, Cond.instanceMethod yX3_openBooking, Cond.selects RX3 yX3_openBooking yX3_openBooking, Cond.code yX3_openBooking cX3_openBooking 2 (some .int), Cond.fieldLink RX3 18 "TrunkYards$Switchboard" "openBookings" "[I", Cond.methodLink RX4 195 yX4_isWithin, Cond.instanceMethod yX4_isWithin, Cond.selects RX4 yX4_isWithin yX4_isWithin, Cond.code yX4_isWithin cX4_isWithin 4 (some .boolean), Cond.methodLink RX4 258 yX1_standing, Cond.instanceMethod yX1_standing]
def wsX4_resume_r3 : List Cond := [Cond.selects RX1 yX1_standing yX1_standing, Cond.code yX1_standing cX1_standing 2 (some .int), Cond.fieldLink RX1 21 "TrunkYards$Ledger" "standings" "[I", Cond.methodLink RX4 336 yX1_customer, Cond.instanceMethod yX1_customer, Cond.selects RX1 yX1_customer yX1_customer, Cond.code yX1_customer cX1_customer 2 (some .int), Cond.fieldLink RX1 9 "TrunkYards$Ledger" "customers" "[I", Cond.methodLink RX4 174 yX3_customer, Cond.instanceMethod yX3_customer, Cond.selects RX3 yX3_customer yX3_customer, Cond.code yX3_customer cX3_customer 2 (some .int), Cond.methodLink RX4 337 yX1_yard, Cond.instanceMethod yX1_yard, Cond.selects RX1 yX1_yard yX1_yard, Cond.code yX1_yard cX1_yard 2 (some .int), Cond.fieldLink RX1 15 "TrunkYards$Ledger" "yards" "[I", Cond.methodLink RX4 168 yX3_yard, Cond.instanceMethod yX3_yard, Cond.selects RX3 yX3_yard yX3_yard, Cond.code yX3_yard cX3_yard 2 (some .int), Cond.fieldLink RX3 15 "TrunkYards$Switchboard" "yards" "[I", Cond.methodLink RX4 189 yX1_keep, Cond.instanceMethod yX1_keep]
def wsX4_resume_r4 : List Cond := [Cond.selects RX1 yX1_keep yX1_keep, Cond.code yX1_keep cX1_keep 3 none, Cond.methodLink RX4 181 yX3_setOpenBooking, Cond.instanceMethod yX3_setOpenBooking, Cond.selects RX3 yX3_setOpenBooking yX3_setOpenBooking, Cond.code yX3_setOpenBooking cX3_setOpenBooking 3 none, Cond.methodLink RX4 201 yX1_size, Cond.instanceMethod yX1_size, Cond.selects RX1 yX1_size yX1_size, Cond.code yX1_size cX1_size 2 (some .int), Cond.fieldLink RX1 27 "TrunkYards$Ledger" "sizes" "[I"]
def wsX4_resume : List Cond := .code yX4_resume cX4_resume 3 (some .int) :: ((wsX4_resume_r1 ++ (wsX4_resume_r2 ++ (wsX4_resume_r3 ++ wsX4_resume_r4))) ++ wsX40 ++ wsX30 ++ wsX10 ++ (vx_atS RX4 77 "java/lang/IllegalStateException" ["java/lang/RuntimeException", "java/lang/Exception"]).filter goodWord ++ (vx_atS RX4 265 "java/lang/IndexOutOfBoundsException" ["java/lang/RuntimeException", "java/lang/Exception"]).filter goodWord)
def wsX4_cancel_r1 : List Cond := [Cond.classLink RX4 73 "java/lang/IllegalStateException", Cond.initialized "java/lang/IllegalStateException", Cond.fieldLink RX4 29 "TrunkYards" "ledger" "LTrunkYards$Ledger;", Cond.methodLink RX4 151 yX4_requireCall, Cond.instanceMethod yX4_requireCall, Cond.selects RX4 yX4_requireCall yX4_requireCall, Cond.initialized RX4, Cond.code yX4_requireCall cX4_requireCall 2 none, Cond.classLink RX4 261 "java/lang/IndexOutOfBoundsException", Cond.initialized "java/lang/IndexOutOfBoundsException", Cond.fieldLink RX4 36 "TrunkYards" "board" "LTrunkYards$Switchboard;", Cond.methodLink RX4 313 yX3_hasBegun, Cond.instanceMethod yX3_hasBegun, Cond.selects RX3 yX3_hasBegun yX3_hasBegun, Cond.initialized RX3, Cond.code yX3_hasBegun cX3_hasBegun 2 (some .boolean), Cond.fieldLink RX3 42 "TrunkYards$Switchboard" "begun" "I", Cond.methodLink RX4 192 yX4_requireBooking, Cond.instanceMethod yX4_requireBooking, Cond.selects RX4 yX4_requireBooking yX4_requireBooking, Cond.code yX4_requireBooking cX4_requireBooking 2 none, Cond.methodLink RX4 254 yX1_opened, Cond.instanceMethod yX1_opened, Cond.selects RX1 yX1_opened yX1_opened]
def wsX4_cancel_r2 : List Cond := [Cond.initialized RX1, Cond.code yX1_opened cX1_opened 1 (some .int), Cond.fieldLink RX1 42 "TrunkYards$Ledger" "count" "I", Cond.methodLink RX4 156 yX4_requireOngoing, Cond.instanceMethod yX4_requireOngoing, Cond.selects RX4 yX4_requireOngoing yX4_requireOngoing, Cond.code yX4_requireOngoing cX4_requireOngoing 2 none, Cond.methodLink RX4 318 yX3_goesOn, Cond.instanceMethod yX3_goesOn, Cond.selects RX3 yX3_goesOn yX3_goesOn, Cond.code yX3_goesOn cX3_goesOn 2 (some .boolean), Cond.fieldLink RX3 27 "TrunkYards$Switchboard" "ongoingCalls" "[I", Cond.fieldLink RX3 9 "TrunkYards$Switchboard" "customers" "[I", Cond.methodLink RX4 195 yX4_isWithin, Cond.instanceMethod yX4_isWithin, Cond.selects RX4 yX4_isWithin yX4_isWithin, Cond.code yX4_isWithin cX4_isWithin 4 (some .boolean), Cond.methodLink RX4 258 yX1_standing, Cond.instanceMethod yX1_standing, Cond.selects RX1 yX1_standing yX1_standing, Cond.code yX1_standing cX1_standing 2 (some .int), Cond.fieldLink RX1 21 "TrunkYards$Ledger" "standings" "[I", Cond.methodLink RX4 336 yX1_customer, Cond.instanceMethod yX1_customer]
def wsX4_cancel_r3 : List Cond := [Cond.selects RX1 yX1_customer yX1_customer, Cond.code yX1_customer cX1_customer 2 (some .int), Cond.fieldLink RX1 9 "TrunkYards$Ledger" "customers" "[I", Cond.methodLink RX4 174 yX3_customer, Cond.instanceMethod yX3_customer, Cond.selects RX3 yX3_customer yX3_customer, Cond.code yX3_customer cX3_customer 2 (some .int), Cond.methodLink RX4 337 yX1_yard, Cond.instanceMethod yX1_yard, Cond.selects RX1 yX1_yard yX1_yard, Cond.code yX1_yard cX1_yard 2 (some .int), Cond.fieldLink RX1 15 "TrunkYards$Ledger" "yards" "[I", Cond.methodLink RX4 168 yX3_yard, Cond.instanceMethod yX3_yard, Cond.selects RX3 yX3_yard yX3_yard, Cond.code yX3_yard cX3_yard 2 (some .int), Cond.fieldLink RX3 15 "TrunkYards$Switchboard" "yards" "[I", Cond.methodLink RX4 206 yX1_release, Cond.instanceMethod yX1_release, Cond.selects RX1 yX1_release yX1_release, Cond.code yX1_release cX1_release 4 none, Cond.fieldLink RX1 27 "TrunkYards$Ledger" "sizes" "[I", Cond.fieldLink RX1 33 "TrunkYards$Ledger" "bookingOfWagon" "[I", Cond.methodLink RX1 46 yX1_get]
def wsX4_cancel_r4 : List Cond := [Cond.instanceMethod yX1_get, Cond.selects RX1 yX1_get yX1_get, Cond.code yX1_get cX1_get 3 (some .int), Cond.fieldLink RX1 30 "TrunkYards$Ledger" "booked" "[I", Cond.methodLink RX4 201 yX1_size, Cond.instanceMethod yX1_size, Cond.selects RX1 yX1_size yX1_size, Cond.code yX1_size cX1_size 2 (some .int)]
def wsX4_cancel : List Cond := .code yX4_cancel cX4_cancel 3 (some .int) :: ((wsX4_cancel_r1 ++ (wsX4_cancel_r2 ++ (wsX4_cancel_r3 ++ wsX4_cancel_r4))) ++ wsX40 ++ wsX30 ++ wsX10 ++ (vx_atS RX4 77 "java/lang/IllegalStateException" ["java/lang/RuntimeException", "java/lang/Exception"]).filter goodWord ++ (vx_atS RX4 265 "java/lang/IndexOutOfBoundsException" ["java/lang/RuntimeException", "java/lang/Exception"]).filter goodWord)
def wsX4_hangUp_r1 : List Cond := [Cond.fieldLink RX4 36 "TrunkYards" "board" "LTrunkYards$Switchboard;", Cond.fieldLink RX4 29 "TrunkYards" "ledger" "LTrunkYards$Ledger;", Cond.methodLink RX4 151 yX4_requireCall, Cond.instanceMethod yX4_requireCall, Cond.selects RX4 yX4_requireCall yX4_requireCall, Cond.initialized RX4, Cond.code yX4_requireCall cX4_requireCall 2 none, Cond.classLink RX4 261 "java/lang/IndexOutOfBoundsException", Cond.initialized "java/lang/IndexOutOfBoundsException", Cond.methodLink RX4 313 yX3_hasBegun, Cond.instanceMethod yX3_hasBegun, Cond.selects RX3 yX3_hasBegun yX3_hasBegun, Cond.initialized RX3, Cond.code yX3_hasBegun cX3_hasBegun 2 (some .boolean), Cond.fieldLink RX3 42 "TrunkYards$Switchboard" "begun" "I", Cond.methodLink RX4 156 yX4_requireOngoing, Cond.instanceMethod yX4_requireOngoing, Cond.selects RX4 yX4_requireOngoing yX4_requireOngoing, Cond.code yX4_requireOngoing cX4_requireOngoing 2 none, Cond.classLink RX4 73 "java/lang/IllegalStateException", Cond.initialized "java/lang/IllegalStateException", Cond.methodLink RX4 318 yX3_goesOn, Cond.instanceMethod yX3_goesOn, Cond.selects RX3 yX3_goesOn yX3_goesOn]
def wsX4_hangUp_r2 : List Cond := [Cond.code yX3_goesOn cX3_goesOn 2 (some .boolean), Cond.fieldLink RX3 27 "TrunkYards$Switchboard" "ongoingCalls" "[I", Cond.fieldLink RX3 9 "TrunkYards$Switchboard" "customers" "[I", Cond.methodLink RX4 159 yX3_openBooking, Cond.instanceMethod yX3_openBooking, Cond.selects RX3 yX3_openBooking yX3_openBooking, Cond.code yX3_openBooking cX3_openBooking 2 (some .int), Cond.fieldLink RX3 18 "TrunkYards$Switchboard" "openBookings" "[I", Cond.methodLink RX4 209 yX3_end, Cond.instanceMethod yX3_end, Cond.selects RX3 yX3_end yX3_end, Cond.code yX3_end cX3_end 2 none, Cond.fieldLink RX3 21 "TrunkYards$Switchboard" "firstTrunks" "[I", Cond.fieldLink RX3 24 "TrunkYards$Switchboard" "secondTrunks" "[I", Cond.methodLink RX3 58 yX3_occupy, Cond.instanceMethod yX3_occupy, Cond.selects RX3 yX3_occupy yX3_occupy, Cond.code yX3_occupy cX3_occupy 3 none, Cond.fieldLink RX3 30 "TrunkYards$Switchboard" "trunks" "[I", Cond.methodLink RX4 206 yX1_release, Cond.instanceMethod yX1_release, Cond.selects RX1 yX1_release yX1_release, Cond.initialized RX1, Cond.code yX1_release cX1_release 4 none]
def wsX4_hangUp_r3 : List Cond := [Cond.fieldLink RX1 21 "TrunkYards$Ledger" "standings" "[I", Cond.fieldLink RX1 27 "TrunkYards$Ledger" "sizes" "[I", Cond.fieldLink RX1 33 "TrunkYards$Ledger" "bookingOfWagon" "[I", Cond.methodLink RX1 46 yX1_get, Cond.instanceMethod yX1_get, Cond.selects RX1 yX1_get yX1_get, Cond.code yX1_get cX1_get 3 (some .int), Cond.fieldLink RX1 30 "TrunkYards$Ledger" "booked" "[I", Cond.methodLink RX4 201 yX1_size, Cond.instanceMethod yX1_size, Cond.selects RX1 yX1_size yX1_size, Cond.code yX1_size cX1_size 2 (some .int)]
def wsX4_hangUp : List Cond := .code yX4_hangUp cX4_hangUp 3 (some .int) :: ((wsX4_hangUp_r1 ++ (wsX4_hangUp_r2 ++ wsX4_hangUp_r3)) ++ wsX40 ++ wsX30 ++ wsX10 ++ (vx_atS RX4 265 "java/lang/IndexOutOfBoundsException" ["java/lang/RuntimeException", "java/lang/Exception"]).filter goodWord ++ (vx_atS RX4 77 "java/lang/IllegalStateException" ["java/lang/RuntimeException", "java/lang/Exception"]).filter goodWord)
def wsX4_callOf : List Cond := .code yX4_callOf cX4_callOf 2 (some .int) :: ([.fieldLink RX4 36 "TrunkYards" "board" "LTrunkYards$Switchboard;", .methodLink RX4 133 yX4_requireCustomer, .static yX4_requireCustomer, .initialized RX4, .code yX4_requireCustomer cX4_requireCustomer 1 none, .classLink RX4 86 "java/lang/IllegalArgumentException", .initialized "java/lang/IllegalArgumentException", .methodLink RX4 136 yX3_ongoing, .instanceMethod yX3_ongoing, .selects RX3 yX3_ongoing yX3_ongoing, .initialized RX3, .code yX3_ongoing cX3_ongoing 2 (some .int), .fieldLink RX3 27 "TrunkYards$Switchboard" "ongoingCalls" "[I"] ++ wsX40 ++ wsX30 ++ (vx_atS RX4 90 "java/lang/IllegalArgumentException" ["java/lang/RuntimeException", "java/lang/Exception"]).filter goodWord)
def wsX4_way_r1 : List Cond := [Cond.fieldLink RX4 36 "TrunkYards" "board" "LTrunkYards$Switchboard;", Cond.methodLink RX4 151 yX4_requireCall, Cond.instanceMethod yX4_requireCall, Cond.selects RX4 yX4_requireCall yX4_requireCall, Cond.initialized RX4, Cond.code yX4_requireCall cX4_requireCall 2 none, Cond.classLink RX4 261 "java/lang/IndexOutOfBoundsException", Cond.initialized "java/lang/IndexOutOfBoundsException", Cond.methodLink RX4 313 yX3_hasBegun, Cond.instanceMethod yX3_hasBegun, Cond.selects RX3 yX3_hasBegun yX3_hasBegun, Cond.initialized RX3, Cond.code yX3_hasBegun cX3_hasBegun 2 (some .boolean), Cond.fieldLink RX3 42 "TrunkYards$Switchboard" "begun" "I", Cond.methodLink RX4 156 yX4_requireOngoing, Cond.instanceMethod yX4_requireOngoing, Cond.selects RX4 yX4_requireOngoing yX4_requireOngoing, Cond.code yX4_requireOngoing cX4_requireOngoing 2 none, Cond.classLink RX4 73 "java/lang/IllegalStateException", Cond.initialized "java/lang/IllegalStateException", Cond.methodLink RX4 318 yX3_goesOn, Cond.instanceMethod yX3_goesOn, Cond.selects RX3 yX3_goesOn yX3_goesOn, Cond.code yX3_goesOn cX3_goesOn 2 (some .boolean)]
def wsX4_way_r2 : List Cond := [Cond.fieldLink RX3 27 "TrunkYards$Switchboard" "ongoingCalls" "[I", Cond.fieldLink RX3 9 "TrunkYards$Switchboard" "customers" "[I", Cond.methodLink RX4 212 yX3_trunksOf, Cond.instanceMethod yX3_trunksOf, Cond.selects RX3 yX3_trunksOf yX3_trunksOf, Cond.code yX3_trunksOf cX3_trunksOf 2 (some .int), Cond.fieldLink RX3 21 "TrunkYards$Switchboard" "firstTrunks" "[I", Cond.fieldLink RX3 24 "TrunkYards$Switchboard" "secondTrunks" "[I"]
def wsX4_way : List Cond := .code yX4_way cX4_way 2 (some .int) :: ((wsX4_way_r1 ++ wsX4_way_r2) ++ wsX40 ++ wsX30 ++ (vx_atS RX4 265 "java/lang/IndexOutOfBoundsException" ["java/lang/RuntimeException", "java/lang/Exception"]).filter goodWord ++ (vx_atS RX4 77 "java/lang/IllegalStateException" ["java/lang/RuntimeException", "java/lang/Exception"]).filter goodWord)
def wsX4_busy : List Cond := .code yX4_busy cX4_busy 1 (some .int) :: ([.fieldLink RX4 148 "TrunkYards" "busyCalls" "I"] ++ wsX40)
def wsX4_isExchange : List Cond := .code yX4_isExchange cX4_isExchange 1 (some .boolean) :: ([])
def wsX4_requireTrunk : List Cond := .code yX4_requireTrunk cX4_requireTrunk 3 none :: ([.classLink RX4 86 "java/lang/IllegalArgumentException", .initialized "java/lang/IllegalArgumentException", .methodLink RX4 306 yX4_isExchange, .static yX4_isExchange, .initialized RX4, .code yX4_isExchange cX4_isExchange 1 (some .boolean)] ++ (vx_atS RX4 90 "java/lang/IllegalArgumentException" ["java/lang/RuntimeException", "java/lang/Exception"]).filter goodWord)
def wsX4_cutOff_r1 : List Cond := [Cond.fieldLink RX4 36 "TrunkYards" "board" "LTrunkYards$Switchboard;", Cond.fieldLink RX4 29 "TrunkYards" "ledger" "LTrunkYards$Ledger;", Cond.fieldLink RX4 246 "TrunkYards" "now" "I", Cond.methodLink RX4 159 yX3_openBooking, Cond.instanceMethod yX3_openBooking, Cond.selects RX3 yX3_openBooking yX3_openBooking, Cond.initialized RX3, Cond.code yX3_openBooking cX3_openBooking 2 (some .int), Cond.fieldLink RX3 18 "TrunkYards$Switchboard" "openBookings" "[I", Cond.methodLink RX4 209 yX3_end, Cond.instanceMethod yX3_end, Cond.selects RX3 yX3_end yX3_end, Cond.code yX3_end cX3_end 2 none, Cond.fieldLink RX3 27 "TrunkYards$Switchboard" "ongoingCalls" "[I", Cond.fieldLink RX3 9 "TrunkYards$Switchboard" "customers" "[I", Cond.fieldLink RX3 21 "TrunkYards$Switchboard" "firstTrunks" "[I", Cond.fieldLink RX3 24 "TrunkYards$Switchboard" "secondTrunks" "[I", Cond.methodLink RX3 58 yX3_occupy, Cond.instanceMethod yX3_occupy, Cond.selects RX3 yX3_occupy yX3_occupy, Cond.code yX3_occupy cX3_occupy 3 none, Cond.fieldLink RX3 30 "TrunkYards$Switchboard" "trunks" "[I", Cond.methodLink RX4 338 yX1_halve, Cond.instanceMethod yX1_halve]
def wsX4_cutOff_r2 : List Cond := [Cond.selects RX1 yX1_halve yX1_halve, Cond.initialized RX1, Cond.code yX1_halve cX1_halve 3 none, Cond.fieldLink RX1 21 "TrunkYards$Ledger" "standings" "[I", Cond.fieldLink RX1 24 "TrunkYards$Ledger" "lapseTicks" "[I"]
def wsX4_cutOff : List Cond := .code yX4_cutOff cX4_cutOff 3 none :: ((wsX4_cutOff_r1 ++ wsX4_cutOff_r2) ++ wsX40 ++ wsX30 ++ wsX10)
def wsX4_cut_r1 : List Cond := [Cond.classLink RX4 73 "java/lang/IllegalStateException", Cond.initialized "java/lang/IllegalStateException", Cond.fieldLink RX4 36 "TrunkYards" "board" "LTrunkYards$Switchboard;", Cond.methodLink RX4 215 yX4_requireTrunk, Cond.static yX4_requireTrunk, Cond.initialized RX4, Cond.code yX4_requireTrunk cX4_requireTrunk 3 none, Cond.classLink RX4 86 "java/lang/IllegalArgumentException", Cond.initialized "java/lang/IllegalArgumentException", Cond.methodLink RX4 306 yX4_isExchange, Cond.static yX4_isExchange, Cond.code yX4_isExchange cX4_isExchange 1 (some .boolean), Cond.methodLink RX4 218 yX4_slotOf, Cond.static yX4_slotOf, Cond.code yX4_slotOf cX4_slotOf 3 (some .int), Cond.methodLink RX4 221 yX3_trunkHas, Cond.instanceMethod yX3_trunkHas, Cond.selects RX3 yX3_trunkHas yX3_trunkHas, Cond.initialized RX3, Cond.code yX3_trunkHas cX3_trunkHas 2 (some .int), Cond.fieldLink RX3 30 "TrunkYards$Switchboard" "trunks" "[I", Cond.methodLink RX4 226 yX4_cutOff, Cond.instanceMethod yX4_cutOff, Cond.selects RX4 yX4_cutOff yX4_cutOff]
def wsX4_cut_r2 : List Cond := [Cond.code yX4_cutOff cX4_cutOff 3 none, Cond.fieldLink RX4 29 "TrunkYards" "ledger" "LTrunkYards$Ledger;", Cond.fieldLink RX4 246 "TrunkYards" "now" "I", Cond.methodLink RX4 159 yX3_openBooking, Cond.instanceMethod yX3_openBooking, Cond.selects RX3 yX3_openBooking yX3_openBooking, Cond.code yX3_openBooking cX3_openBooking 2 (some .int), Cond.fieldLink RX3 18 "TrunkYards$Switchboard" "openBookings" "[I", Cond.methodLink RX4 209 yX3_end, Cond.instanceMethod yX3_end, Cond.selects RX3 yX3_end yX3_end, Cond.code yX3_end cX3_end 2 none, Cond.fieldLink RX3 27 "TrunkYards$Switchboard" "ongoingCalls" "[I", Cond.fieldLink RX3 9 "TrunkYards$Switchboard" "customers" "[I", Cond.fieldLink RX3 21 "TrunkYards$Switchboard" "firstTrunks" "[I", Cond.fieldLink RX3 24 "TrunkYards$Switchboard" "secondTrunks" "[I", Cond.methodLink RX3 58 yX3_occupy, Cond.instanceMethod yX3_occupy, Cond.selects RX3 yX3_occupy yX3_occupy, Cond.code yX3_occupy cX3_occupy 3 none, Cond.methodLink RX4 338 yX1_halve, Cond.instanceMethod yX1_halve, Cond.selects RX1 yX1_halve yX1_halve, Cond.initialized RX1]
def wsX4_cut_r3 : List Cond := [Cond.code yX1_halve cX1_halve 3 none, Cond.fieldLink RX1 21 "TrunkYards$Ledger" "standings" "[I", Cond.fieldLink RX1 24 "TrunkYards$Ledger" "lapseTicks" "[I", Cond.methodLink RX4 229 yX3_setTrunk, Cond.instanceMethod yX3_setTrunk, Cond.selects RX3 yX3_setTrunk yX3_setTrunk, Cond.code yX3_setTrunk cX3_setTrunk 3 none]
def wsX4_cut : List Cond := .code yX4_cut cX4_cut 6 (some .int) :: ((wsX4_cut_r1 ++ (wsX4_cut_r2 ++ wsX4_cut_r3)) ++ wsX40 ++ wsX30 ++ wsX10 ++ (vx_atS RX4 77 "java/lang/IllegalStateException" ["java/lang/RuntimeException", "java/lang/Exception"]).filter goodWord ++ (vx_atS RX4 90 "java/lang/IllegalArgumentException" ["java/lang/RuntimeException", "java/lang/Exception"]).filter goodWord)
def wsX4_mend_r1 : List Cond := [Cond.classLink RX4 73 "java/lang/IllegalStateException", Cond.initialized "java/lang/IllegalStateException", Cond.fieldLink RX4 36 "TrunkYards" "board" "LTrunkYards$Switchboard;", Cond.methodLink RX4 215 yX4_requireTrunk, Cond.static yX4_requireTrunk, Cond.initialized RX4, Cond.code yX4_requireTrunk cX4_requireTrunk 3 none, Cond.classLink RX4 86 "java/lang/IllegalArgumentException", Cond.initialized "java/lang/IllegalArgumentException", Cond.methodLink RX4 306 yX4_isExchange, Cond.static yX4_isExchange, Cond.code yX4_isExchange cX4_isExchange 1 (some .boolean), Cond.methodLink RX4 218 yX4_slotOf, Cond.static yX4_slotOf, Cond.code yX4_slotOf cX4_slotOf 3 (some .int), Cond.methodLink RX4 221 yX3_trunkHas, Cond.instanceMethod yX3_trunkHas, Cond.selects RX3 yX3_trunkHas yX3_trunkHas, Cond.initialized RX3, Cond.code yX3_trunkHas cX3_trunkHas 2 (some .int), Cond.fieldLink RX3 30 "TrunkYards$Switchboard" "trunks" "[I", Cond.methodLink RX4 229 yX3_setTrunk, Cond.instanceMethod yX3_setTrunk, Cond.selects RX3 yX3_setTrunk yX3_setTrunk]
def wsX4_mend_r2 : List Cond := [Cond.code yX3_setTrunk cX3_setTrunk 3 none]
def wsX4_mend : List Cond := .code yX4_mend cX4_mend 5 none :: ((wsX4_mend_r1 ++ wsX4_mend_r2) ++ wsX40 ++ wsX30 ++ (vx_atS RX4 77 "java/lang/IllegalStateException" ["java/lang/RuntimeException", "java/lang/Exception"]).filter goodWord ++ (vx_atS RX4 90 "java/lang/IllegalArgumentException" ["java/lang/RuntimeException", "java/lang/Exception"]).filter goodWord)
def wsX4_trunk : List Cond := .code yX4_trunk cX4_trunk 4 (some .int) :: ([.fieldLink RX4 36 "TrunkYards" "board" "LTrunkYards$Switchboard;", .methodLink RX4 215 yX4_requireTrunk, .static yX4_requireTrunk, .initialized RX4, .code yX4_requireTrunk cX4_requireTrunk 3 none, .classLink RX4 86 "java/lang/IllegalArgumentException", .initialized "java/lang/IllegalArgumentException", .methodLink RX4 306 yX4_isExchange, .static yX4_isExchange, .code yX4_isExchange cX4_isExchange 1 (some .boolean), .methodLink RX4 218 yX4_slotOf, .static yX4_slotOf, .code yX4_slotOf cX4_slotOf 3 (some .int), .methodLink RX4 221 yX3_trunkHas, .instanceMethod yX3_trunkHas, .selects RX3 yX3_trunkHas yX3_trunkHas, .initialized RX3, .code yX3_trunkHas cX3_trunkHas 2 (some .int), .fieldLink RX3 30 "TrunkYards$Switchboard" "trunks" "[I"] ++ wsX40 ++ wsX30 ++ (vx_atS RX4 90 "java/lang/IllegalArgumentException" ["java/lang/RuntimeException", "java/lang/Exception"]).filter goodWord)
def wsX4_setLines : List Cond := .code yX4_setLines cX4_setLines 3 (some .int) :: ([.classLink RX4 86 "java/lang/IllegalArgumentException", .initialized "java/lang/IllegalArgumentException", .classLink RX4 73 "java/lang/IllegalStateException", .initialized "java/lang/IllegalStateException", .fieldLink RX4 36 "TrunkYards" "board" "LTrunkYards$Switchboard;", .methodLink RX4 101 yX4_requireYard, .static yX4_requireYard, .initialized RX4, .code yX4_requireYard cX4_requireYard 1 none, .methodLink RX4 297 yX4_isYard, .static yX4_isYard, .code yX4_isYard cX4_isYard 1 (some .boolean), .methodLink RX4 236 yX3_callsTo, .instanceMethod yX3_callsTo, .selects RX3 yX3_callsTo yX3_callsTo, .initialized RX3, .code yX3_callsTo cX3_callsTo 5 (some .int), .fieldLink RX3 27 "TrunkYards$Switchboard" "ongoingCalls" "[I", .fieldLink RX3 15 "TrunkYards$Switchboard" "yards" "[I", .methodLink RX4 241 yX3_changeLines, .instanceMethod yX3_changeLines, .selects RX3 yX3_changeLines yX3_changeLines, .code yX3_changeLines cX3_changeLines 4 (some .int), .fieldLink RX3 33 "TrunkYards$Switchboard" "lineCounts" "[I"] ++ wsX40 ++ wsX30 ++ (vx_atS RX4 90 "java/lang/IllegalArgumentException" ["java/lang/RuntimeException", "java/lang/Exception"]).filter goodWord ++ (vx_atS RX4 77 "java/lang/IllegalStateException" ["java/lang/RuntimeException", "java/lang/Exception"]).filter goodWord)
def wsX4_pass_r1 : List Cond := [Cond.classLink RX4 86 "java/lang/IllegalArgumentException", Cond.initialized "java/lang/IllegalArgumentException", Cond.classLink RX4 73 "java/lang/IllegalStateException", Cond.initialized "java/lang/IllegalStateException", Cond.fieldLink RX4 246 "TrunkYards" "now" "I", Cond.fieldLink RX4 29 "TrunkYards" "ledger" "LTrunkYards$Ledger;", Cond.methodLink RX4 251 yX1_lapseAll, Cond.instanceMethod yX1_lapseAll, Cond.selects RX1 yX1_lapseAll yX1_lapseAll, Cond.initialized RX1, Cond.code yX1_lapseAll cX1_lapseAll 4 (some .int), Cond.fieldLink RX1 42 "TrunkYards$Ledger" "count" "I", Cond.fieldLink RX1 21 "TrunkYards$Ledger" "standings" "[I", Cond.fieldLink RX1 24 "TrunkYards$Ledger" "lapseTicks" "[I", Cond.methodLink RX1 50 yX1_release, Cond.instanceMethod yX1_release, Cond.selects RX1 yX1_release yX1_release, Cond.code yX1_release cX1_release 4 none, Cond.fieldLink RX1 27 "TrunkYards$Ledger" "sizes" "[I", Cond.fieldLink RX1 33 "TrunkYards$Ledger" "bookingOfWagon" "[I", Cond.methodLink RX1 46 yX1_get, Cond.instanceMethod yX1_get, Cond.selects RX1 yX1_get yX1_get, Cond.code yX1_get cX1_get 3 (some .int)]
def wsX4_pass_r2 : List Cond := [Cond.fieldLink RX1 30 "TrunkYards$Ledger" "booked" "[I"]
def wsX4_pass : List Cond := .code yX4_pass cX4_pass 2 (some .int) :: ((wsX4_pass_r1 ++ wsX4_pass_r2) ++ wsX40 ++ wsX10 ++ (vx_atS RX4 90 "java/lang/IllegalArgumentException" ["java/lang/RuntimeException", "java/lang/Exception"]).filter goodWord ++ (vx_atS RX4 77 "java/lang/IllegalStateException" ["java/lang/RuntimeException", "java/lang/Exception"]).filter goodWord)
def wsX4_bookings : List Cond := .code yX4_bookings cX4_bookings 1 (some .int) :: ([.fieldLink RX4 29 "TrunkYards" "ledger" "LTrunkYards$Ledger;", .methodLink RX4 254 yX1_opened, .instanceMethod yX1_opened, .selects RX1 yX1_opened yX1_opened, .initialized RX1, .code yX1_opened cX1_opened 1 (some .int), .fieldLink RX1 42 "TrunkYards$Ledger" "count" "I"] ++ wsX40 ++ wsX10)
def wsX4_state : List Cond := .code yX4_state cX4_state 2 (some .int) :: ([.fieldLink RX4 29 "TrunkYards" "ledger" "LTrunkYards$Ledger;", .methodLink RX4 192 yX4_requireBooking, .instanceMethod yX4_requireBooking, .selects RX4 yX4_requireBooking yX4_requireBooking, .initialized RX4, .code yX4_requireBooking cX4_requireBooking 2 none, .classLink RX4 261 "java/lang/IndexOutOfBoundsException", .initialized "java/lang/IndexOutOfBoundsException", .methodLink RX4 254 yX1_opened, .instanceMethod yX1_opened, .selects RX1 yX1_opened yX1_opened, .initialized RX1, .code yX1_opened cX1_opened 1 (some .int), .fieldLink RX1 42 "TrunkYards$Ledger" "count" "I", .methodLink RX4 258 yX1_standing, .instanceMethod yX1_standing, .selects RX1 yX1_standing yX1_standing, .code yX1_standing cX1_standing 2 (some .int), .fieldLink RX1 21 "TrunkYards$Ledger" "standings" "[I"] ++ wsX40 ++ wsX10 ++ (vx_atS RX4 265 "java/lang/IndexOutOfBoundsException" ["java/lang/RuntimeException", "java/lang/Exception"]).filter goodWord)
def wsX4_wagons : List Cond := .code yX4_wagons cX4_wagons 2 (some .int) :: ([.fieldLink RX4 29 "TrunkYards" "ledger" "LTrunkYards$Ledger;", .methodLink RX4 192 yX4_requireBooking, .instanceMethod yX4_requireBooking, .selects RX4 yX4_requireBooking yX4_requireBooking, .initialized RX4, .code yX4_requireBooking cX4_requireBooking 2 none, .classLink RX4 261 "java/lang/IndexOutOfBoundsException", .initialized "java/lang/IndexOutOfBoundsException", .methodLink RX4 254 yX1_opened, .instanceMethod yX1_opened, .selects RX1 yX1_opened yX1_opened, .initialized RX1, .code yX1_opened cX1_opened 1 (some .int), .fieldLink RX1 42 "TrunkYards$Ledger" "count" "I", .methodLink RX4 201 yX1_size, .instanceMethod yX1_size, .selects RX1 yX1_size yX1_size, .code yX1_size cX1_size 2 (some .int), .fieldLink RX1 27 "TrunkYards$Ledger" "sizes" "[I"] ++ wsX40 ++ wsX10 ++ (vx_atS RX4 265 "java/lang/IndexOutOfBoundsException" ["java/lang/RuntimeException", "java/lang/Exception"]).filter goodWord)
def wsX4_wagonOf : List Cond := .code yX4_wagonOf cX4_wagonOf 3 (some .int) :: ([.classLink RX4 261 "java/lang/IndexOutOfBoundsException", .initialized "java/lang/IndexOutOfBoundsException", .fieldLink RX4 29 "TrunkYards" "ledger" "LTrunkYards$Ledger;", .methodLink RX4 192 yX4_requireBooking, .instanceMethod yX4_requireBooking, .selects RX4 yX4_requireBooking yX4_requireBooking, .initialized RX4, .code yX4_requireBooking cX4_requireBooking 2 none, .methodLink RX4 254 yX1_opened, .instanceMethod yX1_opened, .selects RX1 yX1_opened yX1_opened, .initialized RX1, .code yX1_opened cX1_opened 1 (some .int), .fieldLink RX1 42 "TrunkYards$Ledger" "count" "I", .methodLink RX4 201 yX1_size, .instanceMethod yX1_size, .selects RX1 yX1_size yX1_size, .code yX1_size cX1_size 2 (some .int), .fieldLink RX1 27 "TrunkYards$Ledger" "sizes" "[I", .methodLink RX4 266 yX1_get, .instanceMethod yX1_get, .selects RX1 yX1_get yX1_get, .code yX1_get cX1_get 3 (some .int), .fieldLink RX1 30 "TrunkYards$Ledger" "booked" "[I"] ++ wsX40 ++ wsX10 ++ (vx_atS RX4 265 "java/lang/IndexOutOfBoundsException" ["java/lang/RuntimeException", "java/lang/Exception"]).filter goodWord)
def wsX4_lapses_r1 : List Cond := [Cond.classLink RX4 73 "java/lang/IllegalStateException", Cond.initialized "java/lang/IllegalStateException", Cond.fieldLink RX4 29 "TrunkYards" "ledger" "LTrunkYards$Ledger;", Cond.fieldLink RX4 246 "TrunkYards" "now" "I", Cond.methodLink RX4 192 yX4_requireBooking, Cond.instanceMethod yX4_requireBooking, Cond.selects RX4 yX4_requireBooking yX4_requireBooking, Cond.initialized RX4, Cond.code yX4_requireBooking cX4_requireBooking 2 none, Cond.classLink RX4 261 "java/lang/IndexOutOfBoundsException", Cond.initialized "java/lang/IndexOutOfBoundsException", Cond.methodLink RX4 254 yX1_opened, Cond.instanceMethod yX1_opened, Cond.selects RX1 yX1_opened yX1_opened, Cond.initialized RX1, Cond.code yX1_opened cX1_opened 1 (some .int), Cond.fieldLink RX1 42 "TrunkYards$Ledger" "count" "I", Cond.methodLink RX4 258 yX1_standing, Cond.instanceMethod yX1_standing, Cond.selects RX1 yX1_standing yX1_standing, Cond.code yX1_standing cX1_standing 2 (some .int), Cond.fieldLink RX1 21 "TrunkYards$Ledger" "standings" "[I", Cond.methodLink RX4 269 yX1_lapseTick, Cond.instanceMethod yX1_lapseTick]
def wsX4_lapses_r2 : List Cond := [Cond.selects RX1 yX1_lapseTick yX1_lapseTick, Cond.code yX1_lapseTick cX1_lapseTick 2 (some .int), Cond.fieldLink RX1 24 "TrunkYards$Ledger" "lapseTicks" "[I"]
def wsX4_lapses : List Cond := .code yX4_lapses cX4_lapses 2 (some .int) :: ((wsX4_lapses_r1 ++ wsX4_lapses_r2) ++ wsX40 ++ wsX10 ++ (vx_atS RX4 77 "java/lang/IllegalStateException" ["java/lang/RuntimeException", "java/lang/Exception"]).filter goodWord ++ (vx_atS RX4 265 "java/lang/IndexOutOfBoundsException" ["java/lang/RuntimeException", "java/lang/Exception"]).filter goodWord)
def wsX4_standsWhole : List Cond := .code yX4_standsWhole cX4_standsWhole 5 (some .boolean) :: ([.fieldLink RX4 12 "TrunkYards" "rows" "LTrunkYards$Rows;", .fieldLink RX4 29 "TrunkYards" "ledger" "LTrunkYards$Ledger;", .methodLink RX4 91 yX2_count, .instanceMethod yX2_count, .selects RX2 yX2_count yX2_count, .initialized RX2, .code yX2_count cX2_count 2 (some .int), .fieldLink RX2 9 "TrunkYards$Rows" "counts" "[I", .methodLink RX4 107 yX2_get, .instanceMethod yX2_get, .selects RX2 yX2_get yX2_get, .code yX2_get cX2_get 3 (some .int), .fieldLink RX2 15 "TrunkYards$Rows" "standing" "[I", .methodLink RX4 130 yX1_bookingFor, .instanceMethod yX1_bookingFor, .selects RX1 yX1_bookingFor yX1_bookingFor, .initialized RX1, .code yX1_bookingFor cX1_bookingFor 2 (some .int), .fieldLink RX1 33 "TrunkYards$Ledger" "bookingOfWagon" "[I", .methodLink RX4 201 yX1_size, .instanceMethod yX1_size, .selects RX1 yX1_size yX1_size, .code yX1_size cX1_size 2 (some .int), .fieldLink RX1 27 "TrunkYards$Ledger" "sizes" "[I"] ++ wsX40 ++ wsX20 ++ wsX10)
def wsX4_canDepart_r1 : List Cond := [Cond.fieldLink RX4 12 "TrunkYards" "rows" "LTrunkYards$Rows;", Cond.fieldLink RX4 29 "TrunkYards" "ledger" "LTrunkYards$Ledger;", Cond.methodLink RX4 91 yX2_count, Cond.instanceMethod yX2_count, Cond.selects RX2 yX2_count yX2_count, Cond.initialized RX2, Cond.code yX2_count cX2_count 2 (some .int), Cond.fieldLink RX2 9 "TrunkYards$Rows" "counts" "[I", Cond.methodLink RX4 107 yX2_get, Cond.instanceMethod yX2_get, Cond.selects RX2 yX2_get yX2_get, Cond.code yX2_get cX2_get 3 (some .int), Cond.fieldLink RX2 15 "TrunkYards$Rows" "standing" "[I", Cond.methodLink RX4 130 yX1_bookingFor, Cond.instanceMethod yX1_bookingFor, Cond.selects RX1 yX1_bookingFor yX1_bookingFor, Cond.initialized RX1, Cond.code yX1_bookingFor cX1_bookingFor 2 (some .int), Cond.fieldLink RX1 33 "TrunkYards$Ledger" "bookingOfWagon" "[I", Cond.methodLink RX4 258 yX1_standing, Cond.instanceMethod yX1_standing, Cond.selects RX1 yX1_standing yX1_standing, Cond.code yX1_standing cX1_standing 2 (some .int), Cond.fieldLink RX1 21 "TrunkYards$Ledger" "standings" "[I"]
def wsX4_canDepart_r2 : List Cond := [Cond.methodLink RX4 341 yX4_standsWhole, Cond.instanceMethod yX4_standsWhole, Cond.selects RX4 yX4_standsWhole yX4_standsWhole, Cond.initialized RX4, Cond.code yX4_standsWhole cX4_standsWhole 5 (some .boolean), Cond.methodLink RX4 201 yX1_size, Cond.instanceMethod yX1_size, Cond.selects RX1 yX1_size yX1_size, Cond.code yX1_size cX1_size 2 (some .int), Cond.fieldLink RX1 27 "TrunkYards$Ledger" "sizes" "[I"]
def wsX4_canDepart : List Cond := .code yX4_canDepart cX4_canDepart 5 (some .boolean) :: ((wsX4_canDepart_r1 ++ wsX4_canDepart_r2) ++ wsX40 ++ wsX20 ++ wsX10)
def wsX4_load_r1 : List Cond := [Cond.fieldLink RX4 12 "TrunkYards" "rows" "LTrunkYards$Rows;", Cond.fieldLink RX4 29 "TrunkYards" "ledger" "LTrunkYards$Ledger;", Cond.fieldLink RX4 40 "TrunkYards" "lastGrain" "[I", Cond.methodLink RX4 91 yX2_count, Cond.instanceMethod yX2_count, Cond.selects RX2 yX2_count yX2_count, Cond.initialized RX2, Cond.code yX2_count cX2_count 2 (some .int), Cond.fieldLink RX2 9 "TrunkYards$Rows" "counts" "[I", Cond.methodLink RX4 107 yX2_get, Cond.instanceMethod yX2_get, Cond.selects RX2 yX2_get yX2_get, Cond.code yX2_get cX2_get 3 (some .int), Cond.fieldLink RX2 15 "TrunkYards$Rows" "standing" "[I", Cond.methodLink RX4 130 yX1_bookingFor, Cond.instanceMethod yX1_bookingFor, Cond.selects RX1 yX1_bookingFor yX1_bookingFor, Cond.initialized RX1, Cond.code yX1_bookingFor cX1_bookingFor 2 (some .int), Cond.fieldLink RX1 33 "TrunkYards$Ledger" "bookingOfWagon" "[I", Cond.methodLink RX4 163 yX1_grain, Cond.instanceMethod yX1_grain, Cond.selects RX1 yX1_grain yX1_grain, Cond.code yX1_grain cX1_grain 2 (some .int)]
def wsX4_load_r2 : List Cond := [Cond.fieldLink RX1 18 "TrunkYards$Ledger" "grains" "[I", Cond.methodLink RX4 189 yX1_keep, Cond.instanceMethod yX1_keep, Cond.selects RX1 yX1_keep yX1_keep, Cond.code yX1_keep cX1_keep 3 none, Cond.fieldLink RX1 21 "TrunkYards$Ledger" "standings" "[I"]
def wsX4_load : List Cond := .code yX4_load cX4_load 5 none :: ((wsX4_load_r1 ++ wsX4_load_r2) ++ wsX40 ++ wsX20 ++ wsX10)
def wsX4_depart_r1 : List Cond := [Cond.classLink RX4 86 "java/lang/IllegalArgumentException", Cond.initialized "java/lang/IllegalArgumentException", Cond.classLink RX4 73 "java/lang/IllegalStateException", Cond.initialized "java/lang/IllegalStateException", Cond.fieldLink RX4 274 "TrunkYards" "departed" "I", Cond.fieldLink RX4 54 "TrunkYards" "destination" "[I", Cond.fieldLink RX4 12 "TrunkYards" "rows" "LTrunkYards$Rows;", Cond.methodLink RX4 57 yX4_requireTrack, Cond.static yX4_requireTrack, Cond.initialized RX4, Cond.code yX4_requireTrack cX4_requireTrack 2 none, Cond.methodLink RX4 297 yX4_isYard, Cond.static yX4_isYard, Cond.code yX4_isYard cX4_isYard 1 (some .boolean), Cond.methodLink RX4 287 yX4_isTrack, Cond.static yX4_isTrack, Cond.code yX4_isTrack cX4_isTrack 1 (some .boolean), Cond.methodLink RX4 101 yX4_requireYard, Cond.static yX4_requireYard, Cond.code yX4_requireYard cX4_requireYard 1 none, Cond.methodLink RX4 61 yX4_rowOf, Cond.static yX4_rowOf, Cond.code yX4_rowOf cX4_rowOf 2 (some .int), Cond.methodLink RX4 277 yX4_canDepart]
def wsX4_depart_r2 : List Cond := [Cond.instanceMethod yX4_canDepart, Cond.selects RX4 yX4_canDepart yX4_canDepart, Cond.code yX4_canDepart cX4_canDepart 5 (some .boolean), Cond.fieldLink RX4 29 "TrunkYards" "ledger" "LTrunkYards$Ledger;", Cond.methodLink RX4 91 yX2_count, Cond.instanceMethod yX2_count, Cond.selects RX2 yX2_count yX2_count, Cond.initialized RX2, Cond.code yX2_count cX2_count 2 (some .int), Cond.fieldLink RX2 9 "TrunkYards$Rows" "counts" "[I", Cond.methodLink RX4 107 yX2_get, Cond.instanceMethod yX2_get, Cond.selects RX2 yX2_get yX2_get, Cond.code yX2_get cX2_get 3 (some .int), Cond.fieldLink RX2 15 "TrunkYards$Rows" "standing" "[I", Cond.methodLink RX4 130 yX1_bookingFor, Cond.instanceMethod yX1_bookingFor, Cond.selects RX1 yX1_bookingFor yX1_bookingFor, Cond.initialized RX1, Cond.code yX1_bookingFor cX1_bookingFor 2 (some .int), Cond.fieldLink RX1 33 "TrunkYards$Ledger" "bookingOfWagon" "[I", Cond.methodLink RX4 258 yX1_standing, Cond.instanceMethod yX1_standing, Cond.selects RX1 yX1_standing yX1_standing]
def wsX4_depart_r3 : List Cond := [Cond.code yX1_standing cX1_standing 2 (some .int), Cond.fieldLink RX1 21 "TrunkYards$Ledger" "standings" "[I", Cond.methodLink RX4 341 yX4_standsWhole, Cond.instanceMethod yX4_standsWhole, Cond.selects RX4 yX4_standsWhole yX4_standsWhole, Cond.code yX4_standsWhole cX4_standsWhole 5 (some .boolean), Cond.methodLink RX4 201 yX1_size, Cond.instanceMethod yX1_size, Cond.selects RX1 yX1_size yX1_size, Cond.code yX1_size cX1_size 2 (some .int), Cond.fieldLink RX1 27 "TrunkYards$Ledger" "sizes" "[I", Cond.methodLink RX4 282 yX4_load, Cond.instanceMethod yX4_load, Cond.selects RX4 yX4_load yX4_load, Cond.code yX4_load cX4_load 5 none, Cond.fieldLink RX4 40 "TrunkYards" "lastGrain" "[I", Cond.methodLink RX4 163 yX1_grain, Cond.instanceMethod yX1_grain, Cond.selects RX1 yX1_grain yX1_grain, Cond.code yX1_grain cX1_grain 2 (some .int), Cond.fieldLink RX1 18 "TrunkYards$Ledger" "grains" "[I", Cond.methodLink RX4 189 yX1_keep, Cond.instanceMethod yX1_keep, Cond.selects RX1 yX1_keep yX1_keep]
def wsX4_depart_r4 : List Cond := [Cond.code yX1_keep cX1_keep 3 none, Cond.methodLink RX4 97 yX4_moveLast, Cond.instanceMethod yX4_moveLast, Cond.selects RX4 yX4_moveLast yX4_moveLast, Cond.code yX4_moveLast cX4_moveLast 4 none, Cond.fieldLink RX4 22 "TrunkYards" "history" "LTrunkYards$History;", Cond.methodLink RX4 327 yX2_move, Cond.instanceMethod yX2_move, Cond.selects RX2 yX2_move yX2_move, Cond.code yX2_move cX2_move 7 none, Cond.methodLink RX4 330 yX0_noteMove, Cond.instanceMethod yX0_noteMove, Cond.selects RX0 yX0_noteMove yX0_noteMove, Cond.initialized RX0, Cond.code yX0_noteMove cX0_noteMove 4 none, Cond.fieldLink RX0 25 "TrunkYards$History" "noted" "I", Cond.fieldLink RX0 9 "TrunkYards$History" "from" "[I", Cond.fieldLink RX0 15 "TrunkYards$History" "to" "[I", Cond.fieldLink RX0 18 "TrunkYards$History" "many" "[I"]
def wsX4_depart : List Cond := .code yX4_depart cX4_depart 6 (some .int) :: ((wsX4_depart_r1 ++ (wsX4_depart_r2 ++ (wsX4_depart_r3 ++ wsX4_depart_r4))) ++ wsX40 ++ wsX20 ++ wsX10 ++ wsX00 ++ (vx_atS RX4 90 "java/lang/IllegalArgumentException" ["java/lang/RuntimeException", "java/lang/Exception"]).filter goodWord ++ (vx_atS RX4 77 "java/lang/IllegalStateException" ["java/lang/RuntimeException", "java/lang/Exception"]).filter goodWord)
def wsX4_unload_r1 : List Cond := [Cond.fieldLink RX4 12 "TrunkYards" "rows" "LTrunkYards$Rows;", Cond.fieldLink RX4 29 "TrunkYards" "ledger" "LTrunkYards$Ledger;", Cond.methodLink RX4 91 yX2_count, Cond.instanceMethod yX2_count, Cond.selects RX2 yX2_count yX2_count, Cond.initialized RX2, Cond.code yX2_count cX2_count 2 (some .int), Cond.fieldLink RX2 9 "TrunkYards$Rows" "counts" "[I", Cond.methodLink RX4 107 yX2_get, Cond.instanceMethod yX2_get, Cond.selects RX2 yX2_get yX2_get, Cond.code yX2_get cX2_get 3 (some .int), Cond.fieldLink RX2 15 "TrunkYards$Rows" "standing" "[I", Cond.methodLink RX4 130 yX1_bookingFor, Cond.instanceMethod yX1_bookingFor, Cond.selects RX1 yX1_bookingFor yX1_bookingFor, Cond.initialized RX1, Cond.code yX1_bookingFor cX1_bookingFor 2 (some .int), Cond.fieldLink RX1 33 "TrunkYards$Ledger" "bookingOfWagon" "[I", Cond.methodLink RX4 206 yX1_release, Cond.instanceMethod yX1_release, Cond.selects RX1 yX1_release yX1_release, Cond.code yX1_release cX1_release 4 none, Cond.fieldLink RX1 21 "TrunkYards$Ledger" "standings" "[I"]
def wsX4_unload_r2 : List Cond := [Cond.fieldLink RX1 27 "TrunkYards$Ledger" "sizes" "[I", Cond.methodLink RX1 46 yX1_get, Cond.instanceMethod yX1_get, Cond.selects RX1 yX1_get yX1_get, Cond.code yX1_get cX1_get 3 (some .int), Cond.fieldLink RX1 30 "TrunkYards$Ledger" "booked" "[I"]
def wsX4_unload : List Cond := .code yX4_unload cX4_unload 4 none :: ((wsX4_unload_r1 ++ wsX4_unload_r2) ++ wsX40 ++ wsX20 ++ wsX10)
def wsX4_arrive_r1 : List Cond := [Cond.classLink RX4 261 "java/lang/IndexOutOfBoundsException", Cond.initialized "java/lang/IndexOutOfBoundsException", Cond.classLink RX4 86 "java/lang/IllegalArgumentException", Cond.initialized "java/lang/IllegalArgumentException", Cond.classLink RX4 73 "java/lang/IllegalStateException", Cond.initialized "java/lang/IllegalStateException", Cond.fieldLink RX4 274 "TrunkYards" "departed" "I", Cond.fieldLink RX4 54 "TrunkYards" "destination" "[I", Cond.fieldLink RX4 12 "TrunkYards" "rows" "LTrunkYards$Rows;", Cond.methodLink RX4 287 yX4_isTrack, Cond.static yX4_isTrack, Cond.initialized RX4, Cond.code yX4_isTrack cX4_isTrack 1 (some .boolean), Cond.methodLink RX4 61 yX4_rowOf, Cond.static yX4_rowOf, Cond.code yX4_rowOf cX4_rowOf 2 (some .int), Cond.methodLink RX4 91 yX2_count, Cond.instanceMethod yX2_count, Cond.selects RX2 yX2_count yX2_count, Cond.initialized RX2, Cond.code yX2_count cX2_count 2 (some .int), Cond.fieldLink RX2 9 "TrunkYards$Rows" "counts" "[I", Cond.methodLink RX4 69 yX2_hasRoom, Cond.instanceMethod yX2_hasRoom]
def wsX4_arrive_r2 : List Cond := [Cond.selects RX2 yX2_hasRoom yX2_hasRoom, Cond.code yX2_hasRoom cX2_hasRoom 3 (some .boolean), Cond.methodLink RX4 294 yX4_unload, Cond.instanceMethod yX4_unload, Cond.selects RX4 yX4_unload yX4_unload, Cond.code yX4_unload cX4_unload 4 none, Cond.fieldLink RX4 29 "TrunkYards" "ledger" "LTrunkYards$Ledger;", Cond.methodLink RX4 107 yX2_get, Cond.instanceMethod yX2_get, Cond.selects RX2 yX2_get yX2_get, Cond.code yX2_get cX2_get 3 (some .int), Cond.fieldLink RX2 15 "TrunkYards$Rows" "standing" "[I", Cond.methodLink RX4 130 yX1_bookingFor, Cond.instanceMethod yX1_bookingFor, Cond.selects RX1 yX1_bookingFor yX1_bookingFor, Cond.initialized RX1, Cond.code yX1_bookingFor cX1_bookingFor 2 (some .int), Cond.fieldLink RX1 33 "TrunkYards$Ledger" "bookingOfWagon" "[I", Cond.methodLink RX4 206 yX1_release, Cond.instanceMethod yX1_release, Cond.selects RX1 yX1_release yX1_release, Cond.code yX1_release cX1_release 4 none, Cond.fieldLink RX1 21 "TrunkYards$Ledger" "standings" "[I", Cond.fieldLink RX1 27 "TrunkYards$Ledger" "sizes" "[I"]
def wsX4_arrive_r3 : List Cond := [Cond.methodLink RX1 46 yX1_get, Cond.instanceMethod yX1_get, Cond.selects RX1 yX1_get yX1_get, Cond.code yX1_get cX1_get 3 (some .int), Cond.fieldLink RX1 30 "TrunkYards$Ledger" "booked" "[I", Cond.methodLink RX4 97 yX4_moveLast, Cond.instanceMethod yX4_moveLast, Cond.selects RX4 yX4_moveLast yX4_moveLast, Cond.code yX4_moveLast cX4_moveLast 4 none, Cond.fieldLink RX4 22 "TrunkYards" "history" "LTrunkYards$History;", Cond.methodLink RX4 327 yX2_move, Cond.instanceMethod yX2_move, Cond.selects RX2 yX2_move yX2_move, Cond.code yX2_move cX2_move 7 none, Cond.methodLink RX4 330 yX0_noteMove, Cond.instanceMethod yX0_noteMove, Cond.selects RX0 yX0_noteMove yX0_noteMove, Cond.initialized RX0, Cond.code yX0_noteMove cX0_noteMove 4 none, Cond.fieldLink RX0 25 "TrunkYards$History" "noted" "I", Cond.fieldLink RX0 9 "TrunkYards$History" "from" "[I", Cond.fieldLink RX0 15 "TrunkYards$History" "to" "[I", Cond.fieldLink RX0 18 "TrunkYards$History" "many" "[I"]
def wsX4_arrive : List Cond := .code yX4_arrive cX4_arrive 6 (some .int) :: ((wsX4_arrive_r1 ++ (wsX4_arrive_r2 ++ wsX4_arrive_r3)) ++ wsX40 ++ wsX20 ++ wsX10 ++ wsX00 ++ (vx_atS RX4 265 "java/lang/IndexOutOfBoundsException" ["java/lang/RuntimeException", "java/lang/Exception"]).filter goodWord ++ (vx_atS RX4 90 "java/lang/IllegalArgumentException" ["java/lang/RuntimeException", "java/lang/Exception"]).filter goodWord ++ (vx_atS RX4 77 "java/lang/IllegalStateException" ["java/lang/RuntimeException", "java/lang/Exception"]).filter goodWord)
def wsX4_trains : List Cond := .code yX4_trains cX4_trains 1 (some .int) :: ([.fieldLink RX4 274 "TrunkYards" "departed" "I"] ++ wsX40)
def wsX5_init_r1 : List Cond := [Cond.methodLink RX5 1 objectInit, Cond.instanceMethod objectInit, Cond.code objectInit ⟨#[0xb1]⟩ 1 none, Cond.arrayClass .int, Cond.fieldLink RX5 7 "TrunkYardsModel" "where" "[I", Cond.fieldLink RX5 13 "TrunkYardsModel" "carried" "[I", Cond.fieldLink RX5 16 "TrunkYardsModel" "booking" "[I", Cond.fieldLink RX5 19 "TrunkYardsModel" "on" "[I", Cond.fieldLink RX5 22 "TrunkYardsModel" "track" "[I", Cond.fieldLink RX5 25 "TrunkYardsModel" "follows" "[I", Cond.fieldLink RX5 28 "TrunkYardsModel" "trunk" "[I", Cond.fieldLink RX5 31 "TrunkYardsModel" "lines" "[I", Cond.fieldLink RX5 34 "TrunkYardsModel" "customer" "[I", Cond.fieldLink RX5 37 "TrunkYardsModel" "yard" "[I", Cond.arrayClass .boolean, Cond.fieldLink RX5 40 "TrunkYardsModel" "goesOn" "[Z", Cond.fieldLink RX5 44 "TrunkYardsModel" "open" "[I", Cond.fieldLink RX5 47 "TrunkYardsModel" "state" "[I", Cond.fieldLink RX5 50 "TrunkYardsModel" "grain" "[I", Cond.fieldLink RX5 53 "TrunkYardsModel" "owner" "[I", Cond.fieldLink RX5 56 "TrunkYardsModel" "booked" "[I", Cond.fieldLink RX5 59 "TrunkYardsModel" "lapse" "[I", Cond.fieldLink RX5 62 "TrunkYardsModel" "many" "[I", Cond.fieldLink RX5 65 "TrunkYardsModel" "wagonOf" "[I"]
def wsX5_init_r2 : List Cond := [Cond.fieldLink RX5 68 "TrunkYardsModel" "goesTo" "[I", Cond.fieldLink RX5 71 "TrunkYardsModel" "hasArrived" "[Z", Cond.fieldLink RX5 74 "TrunkYardsModel" "length" "[I", Cond.fieldLink RX5 77 "TrunkYardsModel" "train" "[I"]
def wsX5_init : List Cond := .code yX5_init cX5_init 1 none :: ((wsX5_init_r1 ++ wsX5_init_r2) ++ wsX50)
def wsX5_thrown : List Cond := .code yX5_thrown cX5_thrown 1 (some .int) :: ([.fieldLink RX5 80 "TrunkYardsModel" "thrown" "I"] ++ wsX50)
def wsX5_in : List Cond := .code yX5_in cX5_in 3 (some .boolean) :: ([])
def wsX5_isYard : List Cond := .code yX5_isYard cX5_isYard 1 (some .boolean) :: ([.methodLink RX5 84 yX5_in, .static yX5_in, .initialized RX5, .code yX5_in cX5_in 3 (some .boolean)])
def wsX5_isTrack : List Cond := .code yX5_isTrack cX5_isTrack 2 (some .boolean) :: ([.methodLink RX5 88 yX5_isYard, .static yX5_isYard, .initialized RX5, .code yX5_isYard cX5_isYard 1 (some .boolean), .methodLink RX5 84 yX5_in, .static yX5_in, .code yX5_in cX5_in 3 (some .boolean)])
def wsX5_isGrain : List Cond := .code yX5_isGrain cX5_isGrain 1 (some .boolean) :: ([.methodLink RX5 84 yX5_in, .static yX5_in, .initialized RX5, .code yX5_in cX5_in 3 (some .boolean)])
def wsX5_isWagon : List Cond := .code yX5_isWagon cX5_isWagon 2 (some .boolean) :: ([.fieldLink RX5 92 "TrunkYardsModel" "wagons" "I", .methodLink RX5 84 yX5_in, .static yX5_in, .initialized RX5, .code yX5_in cX5_in 3 (some .boolean)] ++ wsX50)
def wsX5_puts : List Cond := .code yX5_puts cX5_puts 5 none :: ([.fieldLink RX5 22 "TrunkYardsModel" "track" "[I", .fieldLink RX5 19 "TrunkYardsModel" "on" "[I", .fieldLink RX5 7 "TrunkYardsModel" "where" "[I"] ++ wsX50)
def wsX5_wagon : List Cond := .code yX5_wagon cX5_wagon 3 (some .int) :: ([.fieldLink RX5 92 "TrunkYardsModel" "wagons" "I", .fieldLink RX5 19 "TrunkYardsModel" "on" "[I", .fieldLink RX5 80 "TrunkYardsModel" "thrown" "I", .fieldLink RX5 13 "TrunkYardsModel" "carried" "[I", .fieldLink RX5 16 "TrunkYardsModel" "booking" "[I", .methodLink RX5 95 yX5_isTrack, .static yX5_isTrack, .initialized RX5, .code yX5_isTrack cX5_isTrack 2 (some .boolean), .methodLink RX5 88 yX5_isYard, .static yX5_isYard, .code yX5_isYard cX5_isYard 1 (some .boolean), .methodLink RX5 84 yX5_in, .static yX5_in, .code yX5_in cX5_in 3 (some .boolean), .methodLink RX5 99 yX5_puts, .instanceMethod yX5_puts, .selects RX5 yX5_puts yX5_puts, .code yX5_puts cX5_puts 5 none, .fieldLink RX5 22 "TrunkYardsModel" "track" "[I", .fieldLink RX5 7 "TrunkYardsModel" "where" "[I"] ++ wsX50)
def wsX5_shunt : List Cond := .code yX5_shunt cX5_shunt 8 (some .int) :: ([.fieldLink RX5 19 "TrunkYardsModel" "on" "[I", .fieldLink RX5 80 "TrunkYardsModel" "thrown" "I", .fieldLink RX5 22 "TrunkYardsModel" "track" "[I", .methodLink RX5 95 yX5_isTrack, .static yX5_isTrack, .initialized RX5, .code yX5_isTrack cX5_isTrack 2 (some .boolean), .methodLink RX5 88 yX5_isYard, .static yX5_isYard, .code yX5_isYard cX5_isYard 1 (some .boolean), .methodLink RX5 84 yX5_in, .static yX5_in, .code yX5_in cX5_in 3 (some .boolean), .methodLink RX5 99 yX5_puts, .instanceMethod yX5_puts, .selects RX5 yX5_puts yX5_puts, .code yX5_puts cX5_puts 5 none, .fieldLink RX5 7 "TrunkYardsModel" "where" "[I"] ++ wsX50)
def wsX5_wash : List Cond := .code yX5_wash cX5_wash 5 (some .int) :: ([.fieldLink RX5 19 "TrunkYardsModel" "on" "[I", .fieldLink RX5 80 "TrunkYardsModel" "thrown" "I", .fieldLink RX5 22 "TrunkYardsModel" "track" "[I", .fieldLink RX5 13 "TrunkYardsModel" "carried" "[I", .methodLink RX5 88 yX5_isYard, .static yX5_isYard, .initialized RX5, .code yX5_isYard cX5_isYard 1 (some .boolean), .methodLink RX5 84 yX5_in, .static yX5_in, .code yX5_in cX5_in 3 (some .boolean)] ++ wsX50)
def wsX5_follow : List Cond := .code yX5_follow cX5_follow 3 (some .boolean) :: ([.fieldLink RX5 80 "TrunkYardsModel" "thrown" "I", .fieldLink RX5 25 "TrunkYardsModel" "follows" "[I", .methodLink RX5 103 yX5_isGrain, .static yX5_isGrain, .initialized RX5, .code yX5_isGrain cX5_isGrain 1 (some .boolean), .methodLink RX5 84 yX5_in, .static yX5_in, .code yX5_in cX5_in 3 (some .boolean)] ++ wsX50)
def wsX5_on : List Cond := .code yX5_on cX5_on 3 (some .int) :: ([.fieldLink RX5 80 "TrunkYardsModel" "thrown" "I", .fieldLink RX5 19 "TrunkYardsModel" "on" "[I", .methodLink RX5 95 yX5_isTrack, .static yX5_isTrack, .initialized RX5, .code yX5_isTrack cX5_isTrack 2 (some .boolean), .methodLink RX5 88 yX5_isYard, .static yX5_isYard, .code yX5_isYard cX5_isYard 1 (some .boolean), .methodLink RX5 84 yX5_in, .static yX5_in, .code yX5_in cX5_in 3 (some .boolean)] ++ wsX50)
def wsX5_wagonAt : List Cond := .code yX5_wagonAt cX5_wagonAt 4 (some .int) :: ([.fieldLink RX5 19 "TrunkYardsModel" "on" "[I", .fieldLink RX5 80 "TrunkYardsModel" "thrown" "I", .fieldLink RX5 22 "TrunkYardsModel" "track" "[I", .methodLink RX5 95 yX5_isTrack, .static yX5_isTrack, .initialized RX5, .code yX5_isTrack cX5_isTrack 2 (some .boolean), .methodLink RX5 88 yX5_isYard, .static yX5_isYard, .code yX5_isYard cX5_isYard 1 (some .boolean), .methodLink RX5 84 yX5_in, .static yX5_in, .code yX5_in cX5_in 3 (some .boolean)] ++ wsX50)
def wsX5_at : List Cond := .code yX5_at cX5_at 4 (some .int) :: ([.methodLink RX5 106 yX5_wagonAt, .instanceMethod yX5_wagonAt, .selects RX5 yX5_wagonAt yX5_wagonAt, .initialized RX5, .code yX5_wagonAt cX5_wagonAt 4 (some .int), .fieldLink RX5 19 "TrunkYardsModel" "on" "[I", .fieldLink RX5 80 "TrunkYardsModel" "thrown" "I", .fieldLink RX5 22 "TrunkYardsModel" "track" "[I", .methodLink RX5 95 yX5_isTrack, .static yX5_isTrack, .code yX5_isTrack cX5_isTrack 2 (some .boolean), .methodLink RX5 88 yX5_isYard, .static yX5_isYard, .code yX5_isYard cX5_isYard 1 (some .boolean), .methodLink RX5 84 yX5_in, .static yX5_in, .code yX5_in cX5_in 3 (some .boolean)] ++ wsX50)
def wsX5_atByReplay : List Cond := .code yX5_atByReplay cX5_atByReplay 4 (some .int) :: ([.methodLink RX5 106 yX5_wagonAt, .instanceMethod yX5_wagonAt, .selects RX5 yX5_wagonAt yX5_wagonAt, .initialized RX5, .code yX5_wagonAt cX5_wagonAt 4 (some .int), .fieldLink RX5 19 "TrunkYardsModel" "on" "[I", .fieldLink RX5 80 "TrunkYardsModel" "thrown" "I", .fieldLink RX5 22 "TrunkYardsModel" "track" "[I", .methodLink RX5 95 yX5_isTrack, .static yX5_isTrack, .code yX5_isTrack cX5_isTrack 2 (some .boolean), .methodLink RX5 88 yX5_isYard, .static yX5_isYard, .code yX5_isYard cX5_isYard 1 (some .boolean), .methodLink RX5 84 yX5_in, .static yX5_in, .code yX5_in cX5_in 3 (some .boolean)] ++ wsX50)
def wsX5_asksWagon : List Cond := .code yX5_asksWagon cX5_asksWagon 2 (some .boolean) :: ([.fieldLink RX5 80 "TrunkYardsModel" "thrown" "I", .methodLink RX5 110 yX5_isWagon, .instanceMethod yX5_isWagon, .selects RX5 yX5_isWagon yX5_isWagon, .initialized RX5, .code yX5_isWagon cX5_isWagon 2 (some .boolean), .fieldLink RX5 92 "TrunkYardsModel" "wagons" "I", .methodLink RX5 84 yX5_in, .static yX5_in, .code yX5_in cX5_in 3 (some .boolean)] ++ wsX50)
def wsX5_where : List Cond := .code yX5_where cX5_where 2 (some .int) :: ([.fieldLink RX5 7 "TrunkYardsModel" "where" "[I", .methodLink RX5 113 yX5_asksWagon, .instanceMethod yX5_asksWagon, .selects RX5 yX5_asksWagon yX5_asksWagon, .initialized RX5, .code yX5_asksWagon cX5_asksWagon 2 (some .boolean), .fieldLink RX5 80 "TrunkYardsModel" "thrown" "I", .methodLink RX5 110 yX5_isWagon, .instanceMethod yX5_isWagon, .selects RX5 yX5_isWagon yX5_isWagon, .code yX5_isWagon cX5_isWagon 2 (some .boolean), .fieldLink RX5 92 "TrunkYardsModel" "wagons" "I", .methodLink RX5 84 yX5_in, .static yX5_in, .code yX5_in cX5_in 3 (some .boolean)] ++ wsX50)
def wsX5_carried : List Cond := .code yX5_carried cX5_carried 2 (some .int) :: ([.fieldLink RX5 13 "TrunkYardsModel" "carried" "[I", .methodLink RX5 113 yX5_asksWagon, .instanceMethod yX5_asksWagon, .selects RX5 yX5_asksWagon yX5_asksWagon, .initialized RX5, .code yX5_asksWagon cX5_asksWagon 2 (some .boolean), .fieldLink RX5 80 "TrunkYardsModel" "thrown" "I", .methodLink RX5 110 yX5_isWagon, .instanceMethod yX5_isWagon, .selects RX5 yX5_isWagon yX5_isWagon, .code yX5_isWagon cX5_isWagon 2 (some .boolean), .fieldLink RX5 92 "TrunkYardsModel" "wagons" "I", .methodLink RX5 84 yX5_in, .static yX5_in, .code yX5_in cX5_in 3 (some .boolean)] ++ wsX50)
def wsX5_isPromised : List Cond := .code yX5_isPromised cX5_isPromised 2 (some .boolean) :: ([.fieldLink RX5 16 "TrunkYardsModel" "booking" "[I", .fieldLink RX5 47 "TrunkYardsModel" "state" "[I"] ++ wsX50)
def wsX5_promised : List Cond := .code yX5_promised cX5_promised 2 (some .int) :: ([.fieldLink RX5 16 "TrunkYardsModel" "booking" "[I", .methodLink RX5 113 yX5_asksWagon, .instanceMethod yX5_asksWagon, .selects RX5 yX5_asksWagon yX5_asksWagon, .initialized RX5, .code yX5_asksWagon cX5_asksWagon 2 (some .boolean), .fieldLink RX5 80 "TrunkYardsModel" "thrown" "I", .methodLink RX5 110 yX5_isWagon, .instanceMethod yX5_isWagon, .selects RX5 yX5_isWagon yX5_isWagon, .code yX5_isWagon cX5_isWagon 2 (some .boolean), .fieldLink RX5 92 "TrunkYardsModel" "wagons" "I", .methodLink RX5 84 yX5_in, .static yX5_in, .code yX5_in cX5_in 3 (some .boolean), .methodLink RX5 116 yX5_isPromised, .instanceMethod yX5_isPromised, .selects RX5 yX5_isPromised yX5_isPromised, .code yX5_isPromised cX5_isPromised 2 (some .boolean), .fieldLink RX5 47 "TrunkYardsModel" "state" "[I"] ++ wsX50)
def wsX5_isCall : List Cond := .code yX5_isCall cX5_isCall 2 (some .boolean) :: ([.fieldLink RX5 119 "TrunkYardsModel" "calls" "I", .methodLink RX5 84 yX5_in, .static yX5_in, .initialized RX5, .code yX5_in cX5_in 3 (some .boolean)] ++ wsX50)
def wsX5_isBooking : List Cond := .code yX5_isBooking cX5_isBooking 2 (some .boolean) :: ([.fieldLink RX5 122 "TrunkYardsModel" "bookings" "I", .methodLink RX5 84 yX5_in, .static yX5_in, .initialized RX5, .code yX5_in cX5_in 3 (some .boolean)] ++ wsX50)
def wsX5_callNow : List Cond := .code yX5_callNow cX5_callNow 4 (some .int) :: ([.fieldLink RX5 119 "TrunkYardsModel" "calls" "I", .fieldLink RX5 40 "TrunkYardsModel" "goesOn" "[Z", .fieldLink RX5 34 "TrunkYardsModel" "customer" "[I"] ++ wsX50)
def wsX5_callsTo : List Cond := .code yX5_callsTo cX5_callsTo 4 (some .int) :: ([.fieldLink RX5 119 "TrunkYardsModel" "calls" "I", .fieldLink RX5 40 "TrunkYardsModel" "goesOn" "[Z", .fieldLink RX5 37 "TrunkYardsModel" "yard" "[I"] ++ wsX50)
def wsX5_between : List Cond := .code yX5_between cX5_between 2 (some .int) :: ([])
def wsX5_freeBetween : List Cond := .code yX5_freeBetween cX5_freeBetween 4 (some .int) :: ([.fieldLink RX5 28 "TrunkYardsModel" "trunk" "[I", .methodLink RX5 125 yX5_between, .static yX5_between, .initialized RX5, .code yX5_between cX5_between 2 (some .int)] ++ wsX50)
def wsX5_takesWay : List Cond := .code yX5_takesWay cX5_takesWay 7 (some .boolean) :: ([.fieldLink RX5 28 "TrunkYardsModel" "trunk" "[I", .fieldLink RX5 119 "TrunkYardsModel" "calls" "I", .methodLink RX5 129 yX5_freeBetween, .instanceMethod yX5_freeBetween, .selects RX5 yX5_freeBetween yX5_freeBetween, .initialized RX5, .code yX5_freeBetween cX5_freeBetween 4 (some .int), .methodLink RX5 125 yX5_between, .static yX5_between, .code yX5_between cX5_between 2 (some .int)] ++ wsX50)
def wsX5_call_r1 : List Cond := [Cond.fieldLink RX5 119 "TrunkYardsModel" "calls" "I", Cond.fieldLink RX5 80 "TrunkYardsModel" "thrown" "I", Cond.fieldLink RX5 31 "TrunkYardsModel" "lines" "[I", Cond.fieldLink RX5 142 "TrunkYardsModel" "busy" "I", Cond.fieldLink RX5 34 "TrunkYardsModel" "customer" "[I", Cond.fieldLink RX5 37 "TrunkYardsModel" "yard" "[I", Cond.fieldLink RX5 40 "TrunkYardsModel" "goesOn" "[Z", Cond.fieldLink RX5 44 "TrunkYardsModel" "open" "[I", Cond.methodLink RX5 84 yX5_in, Cond.static yX5_in, Cond.initialized RX5, Cond.code yX5_in cX5_in 3 (some .boolean), Cond.methodLink RX5 88 yX5_isYard, Cond.static yX5_isYard, Cond.code yX5_isYard cX5_isYard 1 (some .boolean), Cond.methodLink RX5 132 yX5_callNow, Cond.instanceMethod yX5_callNow, Cond.selects RX5 yX5_callNow yX5_callNow, Cond.code yX5_callNow cX5_callNow 4 (some .int), Cond.methodLink RX5 136 yX5_callsTo, Cond.instanceMethod yX5_callsTo, Cond.selects RX5 yX5_callsTo yX5_callsTo, Cond.code yX5_callsTo cX5_callsTo 4 (some .int), Cond.methodLink RX5 139 yX5_takesWay]
def wsX5_call_r2 : List Cond := [Cond.instanceMethod yX5_takesWay, Cond.selects RX5 yX5_takesWay yX5_takesWay, Cond.code yX5_takesWay cX5_takesWay 7 (some .boolean), Cond.fieldLink RX5 28 "TrunkYardsModel" "trunk" "[I", Cond.methodLink RX5 129 yX5_freeBetween, Cond.instanceMethod yX5_freeBetween, Cond.selects RX5 yX5_freeBetween yX5_freeBetween, Cond.code yX5_freeBetween cX5_freeBetween 4 (some .int), Cond.methodLink RX5 125 yX5_between, Cond.static yX5_between, Cond.code yX5_between cX5_between 2 (some .int)]
def wsX5_call : List Cond := .code yX5_call cX5_call 3 (some .int) :: ((wsX5_call_r1 ++ wsX5_call_r2) ++ wsX50)
def wsX5_fits : List Cond := .code yX5_fits cX5_fits 3 (some .boolean) :: ([.fieldLink RX5 13 "TrunkYardsModel" "carried" "[I", .fieldLink RX5 25 "TrunkYardsModel" "follows" "[I"] ++ wsX50)
def wsX5_finds : List Cond := .code yX5_finds cX5_finds 10 (some .int) :: ([.fieldLink RX5 19 "TrunkYardsModel" "on" "[I", .fieldLink RX5 22 "TrunkYardsModel" "track" "[I", .methodLink RX5 116 yX5_isPromised, .instanceMethod yX5_isPromised, .selects RX5 yX5_isPromised yX5_isPromised, .initialized RX5, .code yX5_isPromised cX5_isPromised 2 (some .boolean), .fieldLink RX5 16 "TrunkYardsModel" "booking" "[I", .fieldLink RX5 47 "TrunkYardsModel" "state" "[I", .methodLink RX5 145 yX5_fits, .instanceMethod yX5_fits, .selects RX5 yX5_fits yX5_fits, .code yX5_fits cX5_fits 3 (some .boolean), .fieldLink RX5 13 "TrunkYardsModel" "carried" "[I", .fieldLink RX5 25 "TrunkYardsModel" "follows" "[I"] ++ wsX50)
def wsX5_adds : List Cond := .code yX5_adds cX5_adds 3 none :: ([.fieldLink RX5 65 "TrunkYardsModel" "wagonOf" "[I", .fieldLink RX5 62 "TrunkYardsModel" "many" "[I", .fieldLink RX5 16 "TrunkYardsModel" "booking" "[I"] ++ wsX50)
def wsX5_ask_r1 : List Cond := [Cond.fieldLink RX5 40 "TrunkYardsModel" "goesOn" "[Z", Cond.fieldLink RX5 80 "TrunkYardsModel" "thrown" "I", Cond.fieldLink RX5 44 "TrunkYardsModel" "open" "[I", Cond.fieldLink RX5 122 "TrunkYardsModel" "bookings" "I", Cond.fieldLink RX5 50 "TrunkYardsModel" "grain" "[I", Cond.fieldLink RX5 37 "TrunkYardsModel" "yard" "[I", Cond.fieldLink RX5 47 "TrunkYardsModel" "state" "[I", Cond.fieldLink RX5 53 "TrunkYardsModel" "owner" "[I", Cond.fieldLink RX5 34 "TrunkYardsModel" "customer" "[I", Cond.fieldLink RX5 56 "TrunkYardsModel" "booked" "[I", Cond.fieldLink RX5 62 "TrunkYardsModel" "many" "[I", Cond.methodLink RX5 148 yX5_isCall, Cond.instanceMethod yX5_isCall, Cond.selects RX5 yX5_isCall yX5_isCall, Cond.initialized RX5, Cond.code yX5_isCall cX5_isCall 2 (some .boolean), Cond.fieldLink RX5 119 "TrunkYardsModel" "calls" "I", Cond.methodLink RX5 84 yX5_in, Cond.static yX5_in, Cond.code yX5_in cX5_in 3 (some .boolean), Cond.methodLink RX5 103 yX5_isGrain, Cond.static yX5_isGrain, Cond.code yX5_isGrain cX5_isGrain 1 (some .boolean), Cond.methodLink RX5 151 yX5_finds]
def wsX5_ask_r2 : List Cond := [Cond.instanceMethod yX5_finds, Cond.selects RX5 yX5_finds yX5_finds, Cond.code yX5_finds cX5_finds 10 (some .int), Cond.fieldLink RX5 19 "TrunkYardsModel" "on" "[I", Cond.fieldLink RX5 22 "TrunkYardsModel" "track" "[I", Cond.methodLink RX5 116 yX5_isPromised, Cond.instanceMethod yX5_isPromised, Cond.selects RX5 yX5_isPromised yX5_isPromised, Cond.code yX5_isPromised cX5_isPromised 2 (some .boolean), Cond.fieldLink RX5 16 "TrunkYardsModel" "booking" "[I", Cond.methodLink RX5 145 yX5_fits, Cond.instanceMethod yX5_fits, Cond.selects RX5 yX5_fits yX5_fits, Cond.code yX5_fits cX5_fits 3 (some .boolean), Cond.fieldLink RX5 13 "TrunkYardsModel" "carried" "[I", Cond.fieldLink RX5 25 "TrunkYardsModel" "follows" "[I", Cond.methodLink RX5 154 yX5_adds, Cond.instanceMethod yX5_adds, Cond.selects RX5 yX5_adds yX5_adds, Cond.code yX5_adds cX5_adds 3 none, Cond.fieldLink RX5 65 "TrunkYardsModel" "wagonOf" "[I"]
def wsX5_ask : List Cond := .code yX5_ask cX5_ask 4 (some .int) :: ((wsX5_ask_r1 ++ wsX5_ask_r2) ++ wsX50)
def wsX5_confirm : List Cond := .code yX5_confirm cX5_confirm 3 (some .int) :: ([.fieldLink RX5 40 "TrunkYardsModel" "goesOn" "[Z", .fieldLink RX5 44 "TrunkYardsModel" "open" "[I", .fieldLink RX5 80 "TrunkYardsModel" "thrown" "I", .fieldLink RX5 47 "TrunkYardsModel" "state" "[I", .methodLink RX5 148 yX5_isCall, .instanceMethod yX5_isCall, .selects RX5 yX5_isCall yX5_isCall, .initialized RX5, .code yX5_isCall cX5_isCall 2 (some .boolean), .fieldLink RX5 119 "TrunkYardsModel" "calls" "I", .methodLink RX5 84 yX5_in, .static yX5_in, .code yX5_in cX5_in 3 (some .boolean)] ++ wsX50)
def wsX5_isOf : List Cond := .code yX5_isOf cX5_isOf 3 (some .boolean) :: ([.fieldLink RX5 53 "TrunkYardsModel" "owner" "[I", .fieldLink RX5 34 "TrunkYardsModel" "customer" "[I", .fieldLink RX5 56 "TrunkYardsModel" "booked" "[I", .fieldLink RX5 37 "TrunkYardsModel" "yard" "[I"] ++ wsX50)
def wsX5_resume_r1 : List Cond := [Cond.fieldLink RX5 80 "TrunkYardsModel" "thrown" "I", Cond.fieldLink RX5 40 "TrunkYardsModel" "goesOn" "[Z", Cond.fieldLink RX5 44 "TrunkYardsModel" "open" "[I", Cond.fieldLink RX5 47 "TrunkYardsModel" "state" "[I", Cond.fieldLink RX5 62 "TrunkYardsModel" "many" "[I", Cond.methodLink RX5 148 yX5_isCall, Cond.instanceMethod yX5_isCall, Cond.selects RX5 yX5_isCall yX5_isCall, Cond.initialized RX5, Cond.code yX5_isCall cX5_isCall 2 (some .boolean), Cond.fieldLink RX5 119 "TrunkYardsModel" "calls" "I", Cond.methodLink RX5 84 yX5_in, Cond.static yX5_in, Cond.code yX5_in cX5_in 3 (some .boolean), Cond.methodLink RX5 158 yX5_isBooking, Cond.instanceMethod yX5_isBooking, Cond.selects RX5 yX5_isBooking yX5_isBooking, Cond.code yX5_isBooking cX5_isBooking 2 (some .boolean), Cond.fieldLink RX5 122 "TrunkYardsModel" "bookings" "I", Cond.methodLink RX5 161 yX5_isOf, Cond.instanceMethod yX5_isOf, Cond.selects RX5 yX5_isOf yX5_isOf, Cond.code yX5_isOf cX5_isOf 3 (some .boolean), Cond.fieldLink RX5 53 "TrunkYardsModel" "owner" "[I"]
def wsX5_resume_r2 : List Cond := [Cond.fieldLink RX5 34 "TrunkYardsModel" "customer" "[I", Cond.fieldLink RX5 56 "TrunkYardsModel" "booked" "[I", Cond.fieldLink RX5 37 "TrunkYardsModel" "yard" "[I"]
def wsX5_resume : List Cond := .code yX5_resume cX5_resume 3 (some .int) :: ((wsX5_resume_r1 ++ wsX5_resume_r2) ++ wsX50)
def wsX5_cancel_r1 : List Cond := [Cond.fieldLink RX5 80 "TrunkYardsModel" "thrown" "I", Cond.fieldLink RX5 40 "TrunkYardsModel" "goesOn" "[Z", Cond.fieldLink RX5 47 "TrunkYardsModel" "state" "[I", Cond.fieldLink RX5 62 "TrunkYardsModel" "many" "[I", Cond.methodLink RX5 148 yX5_isCall, Cond.instanceMethod yX5_isCall, Cond.selects RX5 yX5_isCall yX5_isCall, Cond.initialized RX5, Cond.code yX5_isCall cX5_isCall 2 (some .boolean), Cond.fieldLink RX5 119 "TrunkYardsModel" "calls" "I", Cond.methodLink RX5 84 yX5_in, Cond.static yX5_in, Cond.code yX5_in cX5_in 3 (some .boolean), Cond.methodLink RX5 158 yX5_isBooking, Cond.instanceMethod yX5_isBooking, Cond.selects RX5 yX5_isBooking yX5_isBooking, Cond.code yX5_isBooking cX5_isBooking 2 (some .boolean), Cond.fieldLink RX5 122 "TrunkYardsModel" "bookings" "I", Cond.methodLink RX5 161 yX5_isOf, Cond.instanceMethod yX5_isOf, Cond.selects RX5 yX5_isOf yX5_isOf, Cond.code yX5_isOf cX5_isOf 3 (some .boolean), Cond.fieldLink RX5 53 "TrunkYardsModel" "owner" "[I", Cond.fieldLink RX5 34 "TrunkYardsModel" "customer" "[I"]
def wsX5_cancel_r2 : List Cond := [Cond.fieldLink RX5 56 "TrunkYardsModel" "booked" "[I", Cond.fieldLink RX5 37 "TrunkYardsModel" "yard" "[I"]
def wsX5_cancel : List Cond := .code yX5_cancel cX5_cancel 3 (some .int) :: ((wsX5_cancel_r1 ++ wsX5_cancel_r2) ++ wsX50)
def wsX5_ends : List Cond := .code yX5_ends cX5_ends 3 none :: ([.fieldLink RX5 40 "TrunkYardsModel" "goesOn" "[Z", .fieldLink RX5 28 "TrunkYardsModel" "trunk" "[I"] ++ wsX50)
def wsX5_hangUp : List Cond := .code yX5_hangUp cX5_hangUp 3 (some .int) :: ([.fieldLink RX5 40 "TrunkYardsModel" "goesOn" "[Z", .fieldLink RX5 80 "TrunkYardsModel" "thrown" "I", .fieldLink RX5 44 "TrunkYardsModel" "open" "[I", .fieldLink RX5 47 "TrunkYardsModel" "state" "[I", .fieldLink RX5 62 "TrunkYardsModel" "many" "[I", .methodLink RX5 148 yX5_isCall, .instanceMethod yX5_isCall, .selects RX5 yX5_isCall yX5_isCall, .initialized RX5, .code yX5_isCall cX5_isCall 2 (some .boolean), .fieldLink RX5 119 "TrunkYardsModel" "calls" "I", .methodLink RX5 84 yX5_in, .static yX5_in, .code yX5_in cX5_in 3 (some .boolean), .methodLink RX5 164 yX5_ends, .instanceMethod yX5_ends, .selects RX5 yX5_ends yX5_ends, .code yX5_ends cX5_ends 3 none, .fieldLink RX5 28 "TrunkYardsModel" "trunk" "[I"] ++ wsX50)
def wsX5_callOf : List Cond := .code yX5_callOf cX5_callOf 2 (some .int) :: ([.fieldLink RX5 80 "TrunkYardsModel" "thrown" "I", .methodLink RX5 84 yX5_in, .static yX5_in, .initialized RX5, .code yX5_in cX5_in 3 (some .boolean), .methodLink RX5 132 yX5_callNow, .instanceMethod yX5_callNow, .selects RX5 yX5_callNow yX5_callNow, .code yX5_callNow cX5_callNow 4 (some .int), .fieldLink RX5 119 "TrunkYardsModel" "calls" "I", .fieldLink RX5 40 "TrunkYardsModel" "goesOn" "[Z", .fieldLink RX5 34 "TrunkYardsModel" "customer" "[I"] ++ wsX50)
def wsX5_way : List Cond := .code yX5_way cX5_way 4 (some .int) :: ([.fieldLink RX5 40 "TrunkYardsModel" "goesOn" "[Z", .fieldLink RX5 80 "TrunkYardsModel" "thrown" "I", .fieldLink RX5 28 "TrunkYardsModel" "trunk" "[I", .methodLink RX5 148 yX5_isCall, .instanceMethod yX5_isCall, .selects RX5 yX5_isCall yX5_isCall, .initialized RX5, .code yX5_isCall cX5_isCall 2 (some .boolean), .fieldLink RX5 119 "TrunkYardsModel" "calls" "I", .methodLink RX5 84 yX5_in, .static yX5_in, .code yX5_in cX5_in 3 (some .boolean)] ++ wsX50)
def wsX5_busy : List Cond := .code yX5_busy cX5_busy 1 (some .int) :: ([.fieldLink RX5 80 "TrunkYardsModel" "thrown" "I", .fieldLink RX5 142 "TrunkYardsModel" "busy" "I"] ++ wsX50)
def wsX5_isTrunk : List Cond := .code yX5_isTrunk cX5_isTrunk 3 (some .boolean) :: ([.methodLink RX5 88 yX5_isYard, .static yX5_isYard, .initialized RX5, .code yX5_isYard cX5_isYard 1 (some .boolean), .methodLink RX5 84 yX5_in, .static yX5_in, .code yX5_in cX5_in 3 (some .boolean)])
def wsX5_cut : List Cond := .code yX5_cut cX5_cut 5 (some .int) :: ([.fieldLink RX5 28 "TrunkYardsModel" "trunk" "[I", .fieldLink RX5 80 "TrunkYardsModel" "thrown" "I", .fieldLink RX5 44 "TrunkYardsModel" "open" "[I", .fieldLink RX5 47 "TrunkYardsModel" "state" "[I", .fieldLink RX5 59 "TrunkYardsModel" "lapse" "[I", .fieldLink RX5 171 "TrunkYardsModel" "now" "I", .methodLink RX5 168 yX5_isTrunk, .static yX5_isTrunk, .initialized RX5, .code yX5_isTrunk cX5_isTrunk 3 (some .boolean), .methodLink RX5 88 yX5_isYard, .static yX5_isYard, .code yX5_isYard cX5_isYard 1 (some .boolean), .methodLink RX5 84 yX5_in, .static yX5_in, .code yX5_in cX5_in 3 (some .boolean), .methodLink RX5 125 yX5_between, .static yX5_between, .code yX5_between cX5_between 2 (some .int), .methodLink RX5 164 yX5_ends, .instanceMethod yX5_ends, .selects RX5 yX5_ends yX5_ends, .code yX5_ends cX5_ends 3 none, .fieldLink RX5 40 "TrunkYardsModel" "goesOn" "[Z"] ++ wsX50)
def wsX5_mend : List Cond := .code yX5_mend cX5_mend 4 none :: ([.fieldLink RX5 28 "TrunkYardsModel" "trunk" "[I", .fieldLink RX5 80 "TrunkYardsModel" "thrown" "I", .methodLink RX5 168 yX5_isTrunk, .static yX5_isTrunk, .initialized RX5, .code yX5_isTrunk cX5_isTrunk 3 (some .boolean), .methodLink RX5 88 yX5_isYard, .static yX5_isYard, .code yX5_isYard cX5_isYard 1 (some .boolean), .methodLink RX5 84 yX5_in, .static yX5_in, .code yX5_in cX5_in 3 (some .boolean), .methodLink RX5 125 yX5_between, .static yX5_between, .code yX5_between cX5_between 2 (some .int)] ++ wsX50)
def wsX5_trunk : List Cond := .code yX5_trunk cX5_trunk 4 (some .int) :: ([.fieldLink RX5 80 "TrunkYardsModel" "thrown" "I", .fieldLink RX5 28 "TrunkYardsModel" "trunk" "[I", .methodLink RX5 168 yX5_isTrunk, .static yX5_isTrunk, .initialized RX5, .code yX5_isTrunk cX5_isTrunk 3 (some .boolean), .methodLink RX5 88 yX5_isYard, .static yX5_isYard, .code yX5_isYard cX5_isYard 1 (some .boolean), .methodLink RX5 84 yX5_in, .static yX5_in, .code yX5_in cX5_in 3 (some .boolean), .methodLink RX5 125 yX5_between, .static yX5_between, .code yX5_between cX5_between 2 (some .int)] ++ wsX50)
def wsX5_setLines : List Cond := .code yX5_setLines cX5_setLines 4 (some .int) :: ([.fieldLink RX5 80 "TrunkYardsModel" "thrown" "I", .fieldLink RX5 31 "TrunkYardsModel" "lines" "[I", .methodLink RX5 88 yX5_isYard, .static yX5_isYard, .initialized RX5, .code yX5_isYard cX5_isYard 1 (some .boolean), .methodLink RX5 84 yX5_in, .static yX5_in, .code yX5_in cX5_in 3 (some .boolean), .methodLink RX5 136 yX5_callsTo, .instanceMethod yX5_callsTo, .selects RX5 yX5_callsTo yX5_callsTo, .code yX5_callsTo cX5_callsTo 4 (some .int), .fieldLink RX5 119 "TrunkYardsModel" "calls" "I", .fieldLink RX5 40 "TrunkYardsModel" "goesOn" "[Z", .fieldLink RX5 37 "TrunkYardsModel" "yard" "[I"] ++ wsX50)
def wsX5_pass : List Cond := .code yX5_pass cX5_pass 4 (some .int) :: ([.fieldLink RX5 171 "TrunkYardsModel" "now" "I", .fieldLink RX5 80 "TrunkYardsModel" "thrown" "I", .fieldLink RX5 122 "TrunkYardsModel" "bookings" "I", .fieldLink RX5 47 "TrunkYardsModel" "state" "[I", .fieldLink RX5 59 "TrunkYardsModel" "lapse" "[I", .methodLink RX5 84 yX5_in, .static yX5_in, .initialized RX5, .code yX5_in cX5_in 3 (some .boolean)] ++ wsX50)
def wsX5_bookings : List Cond := .code yX5_bookings cX5_bookings 1 (some .int) :: ([.fieldLink RX5 80 "TrunkYardsModel" "thrown" "I", .fieldLink RX5 122 "TrunkYardsModel" "bookings" "I"] ++ wsX50)
def wsX5_asksBooking : List Cond := .code yX5_asksBooking cX5_asksBooking 2 (some .boolean) :: ([.fieldLink RX5 80 "TrunkYardsModel" "thrown" "I", .methodLink RX5 158 yX5_isBooking, .instanceMethod yX5_isBooking, .selects RX5 yX5_isBooking yX5_isBooking, .initialized RX5, .code yX5_isBooking cX5_isBooking 2 (some .boolean), .fieldLink RX5 122 "TrunkYardsModel" "bookings" "I", .methodLink RX5 84 yX5_in, .static yX5_in, .code yX5_in cX5_in 3 (some .boolean)] ++ wsX50)
def wsX5_state : List Cond := .code yX5_state cX5_state 2 (some .int) :: ([.fieldLink RX5 47 "TrunkYardsModel" "state" "[I", .methodLink RX5 174 yX5_asksBooking, .instanceMethod yX5_asksBooking, .selects RX5 yX5_asksBooking yX5_asksBooking, .initialized RX5, .code yX5_asksBooking cX5_asksBooking 2 (some .boolean), .fieldLink RX5 80 "TrunkYardsModel" "thrown" "I", .methodLink RX5 158 yX5_isBooking, .instanceMethod yX5_isBooking, .selects RX5 yX5_isBooking yX5_isBooking, .code yX5_isBooking cX5_isBooking 2 (some .boolean), .fieldLink RX5 122 "TrunkYardsModel" "bookings" "I", .methodLink RX5 84 yX5_in, .static yX5_in, .code yX5_in cX5_in 3 (some .boolean)] ++ wsX50)
def wsX5_wagons : List Cond := .code yX5_wagons cX5_wagons 2 (some .int) :: ([.fieldLink RX5 62 "TrunkYardsModel" "many" "[I", .methodLink RX5 174 yX5_asksBooking, .instanceMethod yX5_asksBooking, .selects RX5 yX5_asksBooking yX5_asksBooking, .initialized RX5, .code yX5_asksBooking cX5_asksBooking 2 (some .boolean), .fieldLink RX5 80 "TrunkYardsModel" "thrown" "I", .methodLink RX5 158 yX5_isBooking, .instanceMethod yX5_isBooking, .selects RX5 yX5_isBooking yX5_isBooking, .code yX5_isBooking cX5_isBooking 2 (some .boolean), .fieldLink RX5 122 "TrunkYardsModel" "bookings" "I", .methodLink RX5 84 yX5_in, .static yX5_in, .code yX5_in cX5_in 3 (some .boolean)] ++ wsX50)
def wsX5_wagonOf : List Cond := .code yX5_wagonOf cX5_wagonOf 3 (some .int) :: ([.fieldLink RX5 62 "TrunkYardsModel" "many" "[I", .fieldLink RX5 80 "TrunkYardsModel" "thrown" "I", .fieldLink RX5 65 "TrunkYardsModel" "wagonOf" "[I", .methodLink RX5 158 yX5_isBooking, .instanceMethod yX5_isBooking, .selects RX5 yX5_isBooking yX5_isBooking, .initialized RX5, .code yX5_isBooking cX5_isBooking 2 (some .boolean), .fieldLink RX5 122 "TrunkYardsModel" "bookings" "I", .methodLink RX5 84 yX5_in, .static yX5_in, .code yX5_in cX5_in 3 (some .boolean)] ++ wsX50)
def wsX5_lapses : List Cond := .code yX5_lapses cX5_lapses 2 (some .int) :: ([.fieldLink RX5 47 "TrunkYardsModel" "state" "[I", .fieldLink RX5 80 "TrunkYardsModel" "thrown" "I", .fieldLink RX5 59 "TrunkYardsModel" "lapse" "[I", .fieldLink RX5 171 "TrunkYardsModel" "now" "I", .methodLink RX5 158 yX5_isBooking, .instanceMethod yX5_isBooking, .selects RX5 yX5_isBooking yX5_isBooking, .initialized RX5, .code yX5_isBooking cX5_isBooking 2 (some .boolean), .fieldLink RX5 122 "TrunkYardsModel" "bookings" "I", .methodLink RX5 84 yX5_in, .static yX5_in, .code yX5_in cX5_in 3 (some .boolean)] ++ wsX50)
def wsX5_areOn : List Cond := .code yX5_areOn cX5_areOn 5 (some .boolean) :: ([.fieldLink RX5 62 "TrunkYardsModel" "many" "[I", .fieldLink RX5 7 "TrunkYardsModel" "where" "[I", .fieldLink RX5 65 "TrunkYardsModel" "wagonOf" "[I"] ++ wsX50)
def wsX5_canDepart : List Cond := .code yX5_canDepart cX5_canDepart 7 (some .boolean) :: ([.fieldLink RX5 19 "TrunkYardsModel" "on" "[I", .fieldLink RX5 16 "TrunkYardsModel" "booking" "[I", .fieldLink RX5 22 "TrunkYardsModel" "track" "[I", .fieldLink RX5 47 "TrunkYardsModel" "state" "[I", .methodLink RX5 177 yX5_areOn, .instanceMethod yX5_areOn, .selects RX5 yX5_areOn yX5_areOn, .initialized RX5, .code yX5_areOn cX5_areOn 5 (some .boolean), .fieldLink RX5 62 "TrunkYardsModel" "many" "[I", .fieldLink RX5 7 "TrunkYardsModel" "where" "[I", .fieldLink RX5 65 "TrunkYardsModel" "wagonOf" "[I"] ++ wsX50)
def wsX5_depart_r1 : List Cond := [Cond.fieldLink RX5 80 "TrunkYardsModel" "thrown" "I", Cond.fieldLink RX5 19 "TrunkYardsModel" "on" "[I", Cond.fieldLink RX5 22 "TrunkYardsModel" "track" "[I", Cond.fieldLink RX5 77 "TrunkYardsModel" "train" "[I", Cond.fieldLink RX5 183 "TrunkYardsModel" "trains" "I", Cond.fieldLink RX5 7 "TrunkYardsModel" "where" "[I", Cond.fieldLink RX5 13 "TrunkYardsModel" "carried" "[I", Cond.fieldLink RX5 50 "TrunkYardsModel" "grain" "[I", Cond.fieldLink RX5 16 "TrunkYardsModel" "booking" "[I", Cond.fieldLink RX5 47 "TrunkYardsModel" "state" "[I", Cond.fieldLink RX5 74 "TrunkYardsModel" "length" "[I", Cond.fieldLink RX5 68 "TrunkYardsModel" "goesTo" "[I", Cond.methodLink RX5 95 yX5_isTrack, Cond.static yX5_isTrack, Cond.initialized RX5, Cond.code yX5_isTrack cX5_isTrack 2 (some .boolean), Cond.methodLink RX5 88 yX5_isYard, Cond.static yX5_isYard, Cond.code yX5_isYard cX5_isYard 1 (some .boolean), Cond.methodLink RX5 84 yX5_in, Cond.static yX5_in, Cond.code yX5_in cX5_in 3 (some .boolean), Cond.methodLink RX5 180 yX5_canDepart, Cond.instanceMethod yX5_canDepart]
def wsX5_depart_r2 : List Cond := [Cond.selects RX5 yX5_canDepart yX5_canDepart, Cond.code yX5_canDepart cX5_canDepart 7 (some .boolean), Cond.methodLink RX5 177 yX5_areOn, Cond.instanceMethod yX5_areOn, Cond.selects RX5 yX5_areOn yX5_areOn, Cond.code yX5_areOn cX5_areOn 5 (some .boolean), Cond.fieldLink RX5 62 "TrunkYardsModel" "many" "[I", Cond.fieldLink RX5 65 "TrunkYardsModel" "wagonOf" "[I"]
def wsX5_depart : List Cond := .code yX5_depart cX5_depart 7 (some .int) :: ((wsX5_depart_r1 ++ wsX5_depart_r2) ++ wsX50)
def wsX5_arrive : List Cond := .code yX5_arrive cX5_arrive 5 (some .int) :: ([.fieldLink RX5 183 "TrunkYardsModel" "trains" "I", .fieldLink RX5 80 "TrunkYardsModel" "thrown" "I", .fieldLink RX5 71 "TrunkYardsModel" "hasArrived" "[Z", .fieldLink RX5 19 "TrunkYardsModel" "on" "[I", .fieldLink RX5 68 "TrunkYardsModel" "goesTo" "[I", .fieldLink RX5 74 "TrunkYardsModel" "length" "[I", .fieldLink RX5 77 "TrunkYardsModel" "train" "[I", .fieldLink RX5 47 "TrunkYardsModel" "state" "[I", .fieldLink RX5 16 "TrunkYardsModel" "booking" "[I", .methodLink RX5 84 yX5_in, .static yX5_in, .initialized RX5, .code yX5_in cX5_in 3 (some .boolean), .methodLink RX5 99 yX5_puts, .instanceMethod yX5_puts, .selects RX5 yX5_puts yX5_puts, .code yX5_puts cX5_puts 5 none, .fieldLink RX5 22 "TrunkYardsModel" "track" "[I", .fieldLink RX5 7 "TrunkYardsModel" "where" "[I"] ++ wsX50)
def wsX5_trains : List Cond := .code yX5_trains cX5_trains 1 (some .int) :: ([.fieldLink RX5 80 "TrunkYardsModel" "thrown" "I", .fieldLink RX5 183 "TrunkYardsModel" "trains" "I"] ++ wsX50)
def wsL_wagon_r1 : List Cond := [Cond.classLink RL 13 "java/lang/IllegalArgumentException", Cond.methodLink RL 7 yX4_wagon, Cond.instanceMethod yX4_wagon, Cond.selects RX4 yX4_wagon yX4_wagon, Cond.initialized RX4, Cond.code yX4_wagon cX4_wagon 5 (some .int), Cond.classLink RX4 73 "java/lang/IllegalStateException", Cond.initialized "java/lang/IllegalStateException", Cond.fieldLink RX4 65 "TrunkYards" "placed" "I", Cond.fieldLink RX4 12 "TrunkYards" "rows" "LTrunkYards$Rows;", Cond.fieldLink RX4 22 "TrunkYards" "history" "LTrunkYards$History;", Cond.methodLink RX4 57 yX4_requireTrack, Cond.static yX4_requireTrack, Cond.code yX4_requireTrack cX4_requireTrack 2 none, Cond.classLink RX4 86 "java/lang/IllegalArgumentException", Cond.initialized "java/lang/IllegalArgumentException", Cond.methodLink RX4 297 yX4_isYard, Cond.static yX4_isYard, Cond.code yX4_isYard cX4_isYard 1 (some .boolean), Cond.methodLink RX4 287 yX4_isTrack, Cond.static yX4_isTrack, Cond.code yX4_isTrack cX4_isTrack 1 (some .boolean), Cond.methodLink RX4 61 yX4_rowOf, Cond.static yX4_rowOf]
def wsL_wagon_r2 : List Cond := [Cond.code yX4_rowOf cX4_rowOf 2 (some .int), Cond.methodLink RX4 69 yX2_hasRoom, Cond.instanceMethod yX2_hasRoom, Cond.selects RX2 yX2_hasRoom yX2_hasRoom, Cond.initialized RX2, Cond.code yX2_hasRoom cX2_hasRoom 3 (some .boolean), Cond.fieldLink RX2 9 "TrunkYards$Rows" "counts" "[I", Cond.methodLink RX4 80 yX2_put, Cond.instanceMethod yX2_put, Cond.selects RX2 yX2_put yX2_put, Cond.code yX2_put cX2_put 3 none, Cond.fieldLink RX2 15 "TrunkYards$Rows" "standing" "[I", Cond.methodLink RX4 83 yX0_notePlacing, Cond.instanceMethod yX0_notePlacing, Cond.selects RX0 yX0_notePlacing yX0_notePlacing, Cond.initialized RX0, Cond.code yX0_notePlacing cX0_notePlacing 3 none, Cond.methodLink RX0 21 yX0_noteMove, Cond.instanceMethod yX0_noteMove, Cond.selects RX0 yX0_noteMove yX0_noteMove, Cond.code yX0_noteMove cX0_noteMove 4 none, Cond.fieldLink RX0 25 "TrunkYards$History" "noted" "I", Cond.fieldLink RX0 9 "TrunkYards$History" "from" "[I", Cond.fieldLink RX0 15 "TrunkYards$History" "to" "[I"]
def wsL_wagon_r3 : List Cond := [Cond.fieldLink RX0 18 "TrunkYards$History" "many" "[I"]
def wsL_wagon : List Cond := .codeWith yL_wagon cL_wagon 5 (some .int) [(0, 10, 13, 13), (0, 10, 17, 15)] :: ((wsL_wagon_r1 ++ (wsL_wagon_r2 ++ wsL_wagon_r3)) ++ wsX40 ++ wsX20 ++ wsX00 ++ (vx_atS RX4 77 "java/lang/IllegalStateException" ["java/lang/RuntimeException", "java/lang/Exception"]).filter goodWord ++ (vx_atS RX4 90 "java/lang/IllegalArgumentException" ["java/lang/RuntimeException", "java/lang/Exception"]).filter goodWord)
def wsL_shunt_r1 : List Cond := [Cond.classLink RL 13 "java/lang/IllegalArgumentException", Cond.methodLink RL 17 yX4_shunt, Cond.instanceMethod yX4_shunt, Cond.selects RX4 yX4_shunt yX4_shunt, Cond.initialized RX4, Cond.code yX4_shunt cX4_shunt 7 (some .int), Cond.classLink RX4 86 "java/lang/IllegalArgumentException", Cond.initialized "java/lang/IllegalArgumentException", Cond.classLink RX4 73 "java/lang/IllegalStateException", Cond.initialized "java/lang/IllegalStateException", Cond.fieldLink RX4 12 "TrunkYards" "rows" "LTrunkYards$Rows;", Cond.methodLink RX4 57 yX4_requireTrack, Cond.static yX4_requireTrack, Cond.code yX4_requireTrack cX4_requireTrack 2 none, Cond.methodLink RX4 297 yX4_isYard, Cond.static yX4_isYard, Cond.code yX4_isYard cX4_isYard 1 (some .boolean), Cond.methodLink RX4 287 yX4_isTrack, Cond.static yX4_isTrack, Cond.code yX4_isTrack cX4_isTrack 1 (some .boolean), Cond.methodLink RX4 61 yX4_rowOf, Cond.static yX4_rowOf, Cond.code yX4_rowOf cX4_rowOf 2 (some .int), Cond.methodLink RX4 91 yX2_count]
def wsL_shunt_r2 : List Cond := [Cond.instanceMethod yX2_count, Cond.selects RX2 yX2_count yX2_count, Cond.initialized RX2, Cond.code yX2_count cX2_count 2 (some .int), Cond.fieldLink RX2 9 "TrunkYards$Rows" "counts" "[I", Cond.methodLink RX4 69 yX2_hasRoom, Cond.instanceMethod yX2_hasRoom, Cond.selects RX2 yX2_hasRoom yX2_hasRoom, Cond.code yX2_hasRoom cX2_hasRoom 3 (some .boolean), Cond.methodLink RX4 97 yX4_moveLast, Cond.instanceMethod yX4_moveLast, Cond.selects RX4 yX4_moveLast yX4_moveLast, Cond.code yX4_moveLast cX4_moveLast 4 none, Cond.fieldLink RX4 22 "TrunkYards" "history" "LTrunkYards$History;", Cond.methodLink RX4 327 yX2_move, Cond.instanceMethod yX2_move, Cond.selects RX2 yX2_move yX2_move, Cond.code yX2_move cX2_move 7 none, Cond.fieldLink RX2 15 "TrunkYards$Rows" "standing" "[I", Cond.methodLink RX4 330 yX0_noteMove, Cond.instanceMethod yX0_noteMove, Cond.selects RX0 yX0_noteMove yX0_noteMove, Cond.initialized RX0, Cond.code yX0_noteMove cX0_noteMove 4 none]
def wsL_shunt_r3 : List Cond := [Cond.fieldLink RX0 25 "TrunkYards$History" "noted" "I", Cond.fieldLink RX0 9 "TrunkYards$History" "from" "[I", Cond.fieldLink RX0 15 "TrunkYards$History" "to" "[I", Cond.fieldLink RX0 18 "TrunkYards$History" "many" "[I"]
def wsL_shunt : List Cond := .codeWith yL_shunt cL_shunt 7 (some .int) [(0, 14, 17, 13), (0, 14, 21, 15)] :: ((wsL_shunt_r1 ++ (wsL_shunt_r2 ++ wsL_shunt_r3)) ++ wsX40 ++ wsX20 ++ wsX00 ++ (vx_atS RX4 90 "java/lang/IllegalArgumentException" ["java/lang/RuntimeException", "java/lang/Exception"]).filter goodWord ++ (vx_atS RX4 77 "java/lang/IllegalStateException" ["java/lang/RuntimeException", "java/lang/Exception"]).filter goodWord)
def wsL_wash_r1 : List Cond := [Cond.classLink RL 13 "java/lang/IllegalArgumentException", Cond.methodLink RL 21 yX4_wash, Cond.instanceMethod yX4_wash, Cond.selects RX4 yX4_wash yX4_wash, Cond.initialized RX4, Cond.code yX4_wash cX4_wash 6 (some .int), Cond.classLink RX4 73 "java/lang/IllegalStateException", Cond.initialized "java/lang/IllegalStateException", Cond.fieldLink RX4 12 "TrunkYards" "rows" "LTrunkYards$Rows;", Cond.fieldLink RX4 40 "TrunkYards" "lastGrain" "[I", Cond.methodLink RX4 101 yX4_requireYard, Cond.static yX4_requireYard, Cond.code yX4_requireYard cX4_requireYard 1 none, Cond.classLink RX4 86 "java/lang/IllegalArgumentException", Cond.initialized "java/lang/IllegalArgumentException", Cond.methodLink RX4 297 yX4_isYard, Cond.static yX4_isYard, Cond.code yX4_isYard cX4_isYard 1 (some .boolean), Cond.methodLink RX4 61 yX4_rowOf, Cond.static yX4_rowOf, Cond.code yX4_rowOf cX4_rowOf 2 (some .int), Cond.methodLink RX4 91 yX2_count, Cond.instanceMethod yX2_count, Cond.selects RX2 yX2_count yX2_count]
def wsL_wash_r2 : List Cond := [Cond.initialized RX2, Cond.code yX2_count cX2_count 2 (some .int), Cond.fieldLink RX2 9 "TrunkYards$Rows" "counts" "[I", Cond.methodLink RX4 107 yX2_get, Cond.instanceMethod yX2_get, Cond.selects RX2 yX2_get yX2_get, Cond.code yX2_get cX2_get 3 (some .int), Cond.fieldLink RX2 15 "TrunkYards$Rows" "standing" "[I"]
def wsL_wash : List Cond := .codeWith yL_wash cL_wash 4 (some .int) [(0, 9, 12, 13), (0, 9, 15, 15)] :: ((wsL_wash_r1 ++ wsL_wash_r2) ++ wsX40 ++ wsX20 ++ (vx_atS RX4 77 "java/lang/IllegalStateException" ["java/lang/RuntimeException", "java/lang/Exception"]).filter goodWord ++ (vx_atS RX4 90 "java/lang/IllegalArgumentException" ["java/lang/RuntimeException", "java/lang/Exception"]).filter goodWord)
def wsL_follow : List Cond := .codeWith yL_follow cL_follow 5 (some .int) [(0, 17, 20, 13)] :: ([.classLink RL 13 "java/lang/IllegalArgumentException", .methodLink RL 25 yX4_follow, .instanceMethod yX4_follow, .selects RX4 yX4_follow yX4_follow, .initialized RX4, .code yX4_follow cX4_follow 4 (some .boolean), .classLink RX4 86 "java/lang/IllegalArgumentException", .initialized "java/lang/IllegalArgumentException", .fieldLink RX4 50 "TrunkYards" "mayFollow" "[Z", .methodLink RX4 110 yX4_isGrain, .static yX4_isGrain, .code yX4_isGrain cX4_isGrain 1 (some .boolean)] ++ wsX40 ++ (vx_atS RX4 90 "java/lang/IllegalArgumentException" ["java/lang/RuntimeException", "java/lang/Exception"]).filter goodWord)
def wsL_on_r1 : List Cond := [Cond.classLink RL 13 "java/lang/IllegalArgumentException", Cond.methodLink RL 29 yX4_on, Cond.instanceMethod yX4_on, Cond.selects RX4 yX4_on yX4_on, Cond.initialized RX4, Cond.code yX4_on cX4_on 3 (some .int), Cond.fieldLink RX4 12 "TrunkYards" "rows" "LTrunkYards$Rows;", Cond.methodLink RX4 57 yX4_requireTrack, Cond.static yX4_requireTrack, Cond.code yX4_requireTrack cX4_requireTrack 2 none, Cond.classLink RX4 86 "java/lang/IllegalArgumentException", Cond.initialized "java/lang/IllegalArgumentException", Cond.methodLink RX4 297 yX4_isYard, Cond.static yX4_isYard, Cond.code yX4_isYard cX4_isYard 1 (some .boolean), Cond.methodLink RX4 287 yX4_isTrack, Cond.static yX4_isTrack, Cond.code yX4_isTrack cX4_isTrack 1 (some .boolean), Cond.methodLink RX4 61 yX4_rowOf, Cond.static yX4_rowOf, Cond.code yX4_rowOf cX4_rowOf 2 (some .int), Cond.methodLink RX4 91 yX2_count, Cond.instanceMethod yX2_count, Cond.selects RX2 yX2_count yX2_count]
def wsL_on_r2 : List Cond := [Cond.initialized RX2, Cond.code yX2_count cX2_count 2 (some .int), Cond.fieldLink RX2 9 "TrunkYards$Rows" "counts" "[I"]
def wsL_on : List Cond := .codeWith yL_on cL_on 5 (some .int) [(0, 10, 13, 13)] :: ((wsL_on_r1 ++ wsL_on_r2) ++ wsX40 ++ wsX20 ++ (vx_atS RX4 90 "java/lang/IllegalArgumentException" ["java/lang/RuntimeException", "java/lang/Exception"]).filter goodWord)
def wsL_at_r1 : List Cond := [Cond.classLink RL 13 "java/lang/IllegalArgumentException", Cond.methodLink RL 32 yX4_at, Cond.instanceMethod yX4_at, Cond.selects RX4 yX4_at yX4_at, Cond.initialized RX4, Cond.code yX4_at cX4_at 4 (some .int), Cond.fieldLink RX4 12 "TrunkYards" "rows" "LTrunkYards$Rows;", Cond.methodLink RX4 57 yX4_requireTrack, Cond.static yX4_requireTrack, Cond.code yX4_requireTrack cX4_requireTrack 2 none, Cond.classLink RX4 86 "java/lang/IllegalArgumentException", Cond.initialized "java/lang/IllegalArgumentException", Cond.methodLink RX4 297 yX4_isYard, Cond.static yX4_isYard, Cond.code yX4_isYard cX4_isYard 1 (some .boolean), Cond.methodLink RX4 287 yX4_isTrack, Cond.static yX4_isTrack, Cond.code yX4_isTrack cX4_isTrack 1 (some .boolean), Cond.methodLink RX4 61 yX4_rowOf, Cond.static yX4_rowOf, Cond.code yX4_rowOf cX4_rowOf 2 (some .int), Cond.methodLink RX4 116 yX4_wagonIn, Cond.static yX4_wagonIn, Cond.code yX4_wagonIn cX4_wagonIn 3 (some .int)]
def wsL_at_r2 : List Cond := [Cond.classLink RX4 261 "java/lang/IndexOutOfBoundsException", Cond.initialized "java/lang/IndexOutOfBoundsException", Cond.methodLink RX4 91 yX2_count, Cond.instanceMethod yX2_count, Cond.selects RX2 yX2_count yX2_count, Cond.initialized RX2, Cond.code yX2_count cX2_count 2 (some .int), Cond.fieldLink RX2 9 "TrunkYards$Rows" "counts" "[I", Cond.methodLink RX4 107 yX2_get, Cond.instanceMethod yX2_get, Cond.selects RX2 yX2_get yX2_get, Cond.code yX2_get cX2_get 3 (some .int), Cond.fieldLink RX2 15 "TrunkYards$Rows" "standing" "[I"]
def wsL_at : List Cond := .codeWith yL_at cL_at 6 (some .int) [(0, 12, 15, 13), (0, 12, 19, 36)] :: ((wsL_at_r1 ++ wsL_at_r2) ++ wsX40 ++ wsX20 ++ (vx_atS RX4 90 "java/lang/IllegalArgumentException" ["java/lang/RuntimeException", "java/lang/Exception"]).filter goodWord ++ (vx_atS RX4 265 "java/lang/IndexOutOfBoundsException" ["java/lang/RuntimeException", "java/lang/Exception"]).filter goodWord)
def wsL_atByReplay_r1 : List Cond := [Cond.classLink RL 13 "java/lang/IllegalArgumentException", Cond.methodLink RL 38 yX4_atByReplay, Cond.instanceMethod yX4_atByReplay, Cond.selects RX4 yX4_atByReplay yX4_atByReplay, Cond.initialized RX4, Cond.code yX4_atByReplay cX4_atByReplay 4 (some .int), Cond.fieldLink RX4 22 "TrunkYards" "history" "LTrunkYards$History;", Cond.fieldLink RX4 16 "TrunkYards" "replayed" "LTrunkYards$Rows;", Cond.methodLink RX4 57 yX4_requireTrack, Cond.static yX4_requireTrack, Cond.code yX4_requireTrack cX4_requireTrack 2 none, Cond.classLink RX4 86 "java/lang/IllegalArgumentException", Cond.initialized "java/lang/IllegalArgumentException", Cond.methodLink RX4 297 yX4_isYard, Cond.static yX4_isYard, Cond.code yX4_isYard cX4_isYard 1 (some .boolean), Cond.methodLink RX4 287 yX4_isTrack, Cond.static yX4_isTrack, Cond.code yX4_isTrack cX4_isTrack 1 (some .boolean), Cond.methodLink RX4 120 yX0_replay, Cond.instanceMethod yX0_replay, Cond.selects RX0 yX0_replay yX0_replay, Cond.initialized RX0, Cond.code yX0_replay cX0_replay 3 none]
def wsL_atByReplay_r2 : List Cond := [Cond.fieldLink RX0 25 "TrunkYards$History" "noted" "I", Cond.fieldLink RX0 9 "TrunkYards$History" "from" "[I", Cond.fieldLink RX0 15 "TrunkYards$History" "to" "[I", Cond.fieldLink RX0 18 "TrunkYards$History" "many" "[I", Cond.methodLink RX0 29 yX2_clear, Cond.instanceMethod yX2_clear, Cond.selects RX2 yX2_clear yX2_clear, Cond.initialized RX2, Cond.code yX2_clear cX2_clear 1 none, Cond.fieldLink RX2 9 "TrunkYards$Rows" "counts" "[I", Cond.methodLink RX2 22 yJ7_fill_53178, Cond.static yJ7_fill_53178, Cond.initialized RJ7, Cond.code yJ7_fill_53178 cJ7_fill_53178 4 none, Cond.methodLink RX0 34 yX2_put, Cond.instanceMethod yX2_put, Cond.selects RX2 yX2_put yX2_put, Cond.code yX2_put cX2_put 3 none, Cond.fieldLink RX2 15 "TrunkYards$Rows" "standing" "[I", Cond.methodLink RX0 38 yX2_move, Cond.instanceMethod yX2_move, Cond.selects RX2 yX2_move yX2_move, Cond.code yX2_move cX2_move 7 none, Cond.methodLink RX4 61 yX4_rowOf]
def wsL_atByReplay_r3 : List Cond := [Cond.static yX4_rowOf, Cond.code yX4_rowOf cX4_rowOf 2 (some .int), Cond.methodLink RX4 116 yX4_wagonIn, Cond.static yX4_wagonIn, Cond.code yX4_wagonIn cX4_wagonIn 3 (some .int), Cond.classLink RX4 261 "java/lang/IndexOutOfBoundsException", Cond.initialized "java/lang/IndexOutOfBoundsException", Cond.methodLink RX4 91 yX2_count, Cond.instanceMethod yX2_count, Cond.selects RX2 yX2_count yX2_count, Cond.code yX2_count cX2_count 2 (some .int), Cond.methodLink RX4 107 yX2_get, Cond.instanceMethod yX2_get, Cond.selects RX2 yX2_get yX2_get, Cond.code yX2_get cX2_get 3 (some .int)]
def wsL_atByReplay : List Cond := .codeWith yL_atByReplay cL_atByReplay 6 (some .int) [(0, 12, 15, 13), (0, 12, 19, 36)] :: ((wsL_atByReplay_r1 ++ (wsL_atByReplay_r2 ++ wsL_atByReplay_r3)) ++ wsX40 ++ wsX00 ++ wsX20 ++ (vx_atS RX4 90 "java/lang/IllegalArgumentException" ["java/lang/RuntimeException", "java/lang/Exception"]).filter goodWord ++ (vx_atS RX4 265 "java/lang/IndexOutOfBoundsException" ["java/lang/RuntimeException", "java/lang/Exception"]).filter goodWord)
def wsL_where_r1 : List Cond := [Cond.classLink RL 36 "java/lang/IndexOutOfBoundsException", Cond.methodLink RL 41 yX4_where, Cond.instanceMethod yX4_where, Cond.selects RX4 yX4_where yX4_where, Cond.initialized RX4, Cond.code yX4_where cX4_where 3 (some .int), Cond.fieldLink RX4 12 "TrunkYards" "rows" "LTrunkYards$Rows;", Cond.methodLink RX4 124 yX4_requireWagon, Cond.instanceMethod yX4_requireWagon, Cond.selects RX4 yX4_requireWagon yX4_requireWagon, Cond.code yX4_requireWagon cX4_requireWagon 2 none, Cond.classLink RX4 261 "java/lang/IndexOutOfBoundsException", Cond.initialized "java/lang/IndexOutOfBoundsException", Cond.fieldLink RX4 65 "TrunkYards" "placed" "I", Cond.methodLink RX4 127 yX2_findOnTracks, Cond.instanceMethod yX2_findOnTracks, Cond.selects RX2 yX2_findOnTracks yX2_findOnTracks, Cond.initialized RX2, Cond.code yX2_findOnTracks cX2_findOnTracks 4 (some .int), Cond.fieldLink RX2 9 "TrunkYards$Rows" "counts" "[I", Cond.methodLink RX2 18 yX2_get, Cond.instanceMethod yX2_get, Cond.selects RX2 yX2_get yX2_get, Cond.code yX2_get cX2_get 3 (some .int)]
def wsL_where_r2 : List Cond := [Cond.fieldLink RX2 15 "TrunkYards$Rows" "standing" "[I"]
def wsL_where : List Cond := .codeWith yL_where cL_where 4 (some .int) [(0, 9, 12, 36)] :: ((wsL_where_r1 ++ wsL_where_r2) ++ wsX40 ++ wsX20 ++ (vx_atS RX4 265 "java/lang/IndexOutOfBoundsException" ["java/lang/RuntimeException", "java/lang/Exception"]).filter goodWord)
def wsL_carried : List Cond := .codeWith yL_carried cL_carried 4 (some .int) [(0, 9, 12, 36)] :: ([.classLink RL 36 "java/lang/IndexOutOfBoundsException", .methodLink RL 44 yX4_carried, .instanceMethod yX4_carried, .selects RX4 yX4_carried yX4_carried, .initialized RX4, .code yX4_carried cX4_carried 2 (some .int), .fieldLink RX4 40 "TrunkYards" "lastGrain" "[I", .methodLink RX4 124 yX4_requireWagon, .instanceMethod yX4_requireWagon, .selects RX4 yX4_requireWagon yX4_requireWagon, .code yX4_requireWagon cX4_requireWagon 2 none, .classLink RX4 261 "java/lang/IndexOutOfBoundsException", .initialized "java/lang/IndexOutOfBoundsException", .fieldLink RX4 65 "TrunkYards" "placed" "I"] ++ wsX40 ++ (vx_atS RX4 265 "java/lang/IndexOutOfBoundsException" ["java/lang/RuntimeException", "java/lang/Exception"]).filter goodWord)
def wsL_promised : List Cond := .codeWith yL_promised cL_promised 4 (some .int) [(0, 9, 12, 36)] :: ([.classLink RL 36 "java/lang/IndexOutOfBoundsException", .methodLink RL 47 yX4_promised, .instanceMethod yX4_promised, .selects RX4 yX4_promised yX4_promised, .initialized RX4, .code yX4_promised cX4_promised 2 (some .int), .fieldLink RX4 29 "TrunkYards" "ledger" "LTrunkYards$Ledger;", .methodLink RX4 124 yX4_requireWagon, .instanceMethod yX4_requireWagon, .selects RX4 yX4_requireWagon yX4_requireWagon, .code yX4_requireWagon cX4_requireWagon 2 none, .classLink RX4 261 "java/lang/IndexOutOfBoundsException", .initialized "java/lang/IndexOutOfBoundsException", .fieldLink RX4 65 "TrunkYards" "placed" "I", .methodLink RX4 130 yX1_bookingFor, .instanceMethod yX1_bookingFor, .selects RX1 yX1_bookingFor yX1_bookingFor, .initialized RX1, .code yX1_bookingFor cX1_bookingFor 2 (some .int), .fieldLink RX1 33 "TrunkYards$Ledger" "bookingOfWagon" "[I"] ++ wsX40 ++ wsX10 ++ (vx_atS RX4 265 "java/lang/IndexOutOfBoundsException" ["java/lang/RuntimeException", "java/lang/Exception"]).filter goodWord)
def wsL_call_r1 : List Cond := [Cond.classLink RL 13 "java/lang/IllegalArgumentException", Cond.methodLink RL 50 yX4_call, Cond.instanceMethod yX4_call, Cond.selects RX4 yX4_call yX4_call, Cond.initialized RX4, Cond.code yX4_call cX4_call 4 (some .int), Cond.classLink RX4 73 "java/lang/IllegalStateException", Cond.initialized "java/lang/IllegalStateException", Cond.fieldLink RX4 36 "TrunkYards" "board" "LTrunkYards$Switchboard;", Cond.fieldLink RX4 148 "TrunkYards" "busyCalls" "I", Cond.methodLink RX4 133 yX4_requireCustomer, Cond.static yX4_requireCustomer, Cond.code yX4_requireCustomer cX4_requireCustomer 1 none, Cond.classLink RX4 86 "java/lang/IllegalArgumentException", Cond.initialized "java/lang/IllegalArgumentException", Cond.methodLink RX4 101 yX4_requireYard, Cond.static yX4_requireYard, Cond.code yX4_requireYard cX4_requireYard 1 none, Cond.methodLink RX4 297 yX4_isYard, Cond.static yX4_isYard, Cond.code yX4_isYard cX4_isYard 1 (some .boolean), Cond.methodLink RX4 136 yX3_ongoing, Cond.instanceMethod yX3_ongoing, Cond.selects RX3 yX3_ongoing yX3_ongoing]
def wsL_call_r2 : List Cond := [Cond.initialized RX3, Cond.code yX3_ongoing cX3_ongoing 2 (some .int), Cond.fieldLink RX3 27 "TrunkYards$Switchboard" "ongoingCalls" "[I", Cond.methodLink RX4 139 yX3_isFull, Cond.instanceMethod yX3_isFull, Cond.selects RX3 yX3_isFull yX3_isFull, Cond.code yX3_isFull cX3_isFull 1 (some .boolean), Cond.fieldLink RX3 42 "TrunkYards$Switchboard" "begun" "I", Cond.methodLink RX4 145 yX3_begin, Cond.instanceMethod yX3_begin, Cond.selects RX3 yX3_begin yX3_begin, Cond.code yX3_begin cX3_begin 8 (some .int), Cond.fieldLink RX3 33 "TrunkYards$Switchboard" "lineCounts" "[I", Cond.methodLink RX3 46 yX3_callsTo, Cond.instanceMethod yX3_callsTo, Cond.selects RX3 yX3_callsTo yX3_callsTo, Cond.code yX3_callsTo cX3_callsTo 5 (some .int), Cond.fieldLink RX3 15 "TrunkYards$Switchboard" "yards" "[I", Cond.methodLink RX3 50 yX3_connect, Cond.instanceMethod yX3_connect, Cond.selects RX3 yX3_connect yX3_connect, Cond.code yX3_connect cX3_connect 6 (some .int), Cond.fieldLink RX3 9 "TrunkYards$Switchboard" "customers" "[I", Cond.fieldLink RX3 18 "TrunkYards$Switchboard" "openBookings" "[I"]
def wsL_call_r3 : List Cond := [Cond.fieldLink RX3 21 "TrunkYards$Switchboard" "firstTrunks" "[I", Cond.fieldLink RX3 24 "TrunkYards$Switchboard" "secondTrunks" "[I", Cond.methodLink RX3 58 yX3_occupy, Cond.instanceMethod yX3_occupy, Cond.selects RX3 yX3_occupy yX3_occupy, Cond.code yX3_occupy cX3_occupy 3 none, Cond.fieldLink RX3 30 "TrunkYards$Switchboard" "trunks" "[I", Cond.methodLink RX3 54 yX3_freeTrunk, Cond.instanceMethod yX3_freeTrunk, Cond.selects RX3 yX3_freeTrunk yX3_freeTrunk, Cond.code yX3_freeTrunk cX3_freeTrunk 5 (some .int), Cond.static yX4_slotOf, Cond.code yX4_slotOf cX4_slotOf 3 (some .int)]
def wsL_call : List Cond := .codeWith yL_call cL_call 5 (some .int) [(0, 10, 13, 13), (0, 10, 17, 15)] :: ((wsL_call_r1 ++ (wsL_call_r2 ++ wsL_call_r3)) ++ wsX40 ++ wsX30 ++ (vx_atS RX4 77 "java/lang/IllegalStateException" ["java/lang/RuntimeException", "java/lang/Exception"]).filter goodWord ++ (vx_atS RX4 90 "java/lang/IllegalArgumentException" ["java/lang/RuntimeException", "java/lang/Exception"]).filter goodWord)
def wsL_ask_r1 : List Cond := [Cond.classLink RL 36 "java/lang/IndexOutOfBoundsException", Cond.methodLink RL 53 yX4_ask, Cond.instanceMethod yX4_ask, Cond.selects RX4 yX4_ask yX4_ask, Cond.initialized RX4, Cond.code yX4_ask cX4_ask 5 (some .int), Cond.classLink RX4 86 "java/lang/IllegalArgumentException", Cond.initialized "java/lang/IllegalArgumentException", Cond.classLink RX4 73 "java/lang/IllegalStateException", Cond.initialized "java/lang/IllegalStateException", Cond.fieldLink RX4 36 "TrunkYards" "board" "LTrunkYards$Switchboard;", Cond.fieldLink RX4 29 "TrunkYards" "ledger" "LTrunkYards$Ledger;", Cond.methodLink RX4 151 yX4_requireCall, Cond.instanceMethod yX4_requireCall, Cond.selects RX4 yX4_requireCall yX4_requireCall, Cond.code yX4_requireCall cX4_requireCall 2 none, Cond.classLink RX4 261 "java/lang/IndexOutOfBoundsException", Cond.initialized "java/lang/IndexOutOfBoundsException", Cond.methodLink RX4 313 yX3_hasBegun, Cond.instanceMethod yX3_hasBegun, Cond.selects RX3 yX3_hasBegun yX3_hasBegun, Cond.initialized RX3, Cond.code yX3_hasBegun cX3_hasBegun 2 (some .boolean), Cond.fieldLink RX3 42 "TrunkYards$Switchboard" "begun" "I"]
def wsL_ask_r2 : List Cond := [Cond.methodLink RX4 110 yX4_isGrain, Cond.static yX4_isGrain, Cond.code yX4_isGrain cX4_isGrain 1 (some .boolean), Cond.methodLink RX4 156 yX4_requireOngoing, Cond.instanceMethod yX4_requireOngoing, Cond.selects RX4 yX4_requireOngoing yX4_requireOngoing, Cond.code yX4_requireOngoing cX4_requireOngoing 2 none, Cond.methodLink RX4 318 yX3_goesOn, Cond.instanceMethod yX3_goesOn, Cond.selects RX3 yX3_goesOn yX3_goesOn, Cond.code yX3_goesOn cX3_goesOn 2 (some .boolean), Cond.fieldLink RX3 27 "TrunkYards$Switchboard" "ongoingCalls" "[I", Cond.fieldLink RX3 9 "TrunkYards$Switchboard" "customers" "[I", Cond.methodLink RX4 159 yX3_openBooking, Cond.instanceMethod yX3_openBooking, Cond.selects RX3 yX3_openBooking yX3_openBooking, Cond.code yX3_openBooking cX3_openBooking 2 (some .int), Cond.fieldLink RX3 18 "TrunkYards$Switchboard" "openBookings" "[I", Cond.methodLink RX4 162 yX1_isFull, Cond.instanceMethod yX1_isFull, Cond.selects RX1 yX1_isFull yX1_isFull, Cond.initialized RX1, Cond.code yX1_isFull cX1_isFull 1 (some .boolean), Cond.fieldLink RX1 42 "TrunkYards$Ledger" "count" "I"]
def wsL_ask_r3 : List Cond := [Cond.methodLink RX4 163 yX1_grain, Cond.instanceMethod yX1_grain, Cond.selects RX1 yX1_grain yX1_grain, Cond.code yX1_grain cX1_grain 2 (some .int), Cond.fieldLink RX1 18 "TrunkYards$Ledger" "grains" "[I", Cond.methodLink RX4 168 yX3_yard, Cond.instanceMethod yX3_yard, Cond.selects RX3 yX3_yard yX3_yard, Cond.code yX3_yard cX3_yard 2 (some .int), Cond.fieldLink RX3 15 "TrunkYards$Switchboard" "yards" "[I", Cond.methodLink RX4 171 yX4_findWagon, Cond.instanceMethod yX4_findWagon, Cond.selects RX4 yX4_findWagon yX4_findWagon, Cond.code yX4_findWagon cX4_findWagon 8 (some .int), Cond.fieldLink RX4 12 "TrunkYards" "rows" "LTrunkYards$Rows;", Cond.methodLink RX4 61 yX4_rowOf, Cond.static yX4_rowOf, Cond.code yX4_rowOf cX4_rowOf 2 (some .int), Cond.methodLink RX4 91 yX2_count, Cond.instanceMethod yX2_count, Cond.selects RX2 yX2_count yX2_count, Cond.initialized RX2, Cond.code yX2_count cX2_count 2 (some .int), Cond.fieldLink RX2 9 "TrunkYards$Rows" "counts" "[I"]
def wsL_ask_r4 : List Cond := [Cond.methodLink RX4 107 yX2_get, Cond.instanceMethod yX2_get, Cond.selects RX2 yX2_get yX2_get, Cond.code yX2_get cX2_get 3 (some .int), Cond.fieldLink RX2 15 "TrunkYards$Rows" "standing" "[I", Cond.methodLink RX4 130 yX1_bookingFor, Cond.instanceMethod yX1_bookingFor, Cond.selects RX1 yX1_bookingFor yX1_bookingFor, Cond.code yX1_bookingFor cX1_bookingFor 2 (some .int), Cond.fieldLink RX1 33 "TrunkYards$Ledger" "bookingOfWagon" "[I", Cond.methodLink RX4 333 yX4_fits, Cond.instanceMethod yX4_fits, Cond.selects RX4 yX4_fits yX4_fits, Cond.code yX4_fits cX4_fits 4 (some .boolean), Cond.fieldLink RX4 40 "TrunkYards" "lastGrain" "[I", Cond.fieldLink RX4 50 "TrunkYards" "mayFollow" "[Z", Cond.methodLink RX4 174 yX3_customer, Cond.instanceMethod yX3_customer, Cond.selects RX3 yX3_customer yX3_customer, Cond.code yX3_customer cX3_customer 2 (some .int), Cond.methodLink RX4 177 yX1_open, Cond.instanceMethod yX1_open, Cond.selects RX1 yX1_open yX1_open, Cond.code yX1_open cX1_open 5 (some .int)]
def wsL_ask_r5 : List Cond := [Cond.fieldLink RX1 9 "TrunkYards$Ledger" "customers" "[I", Cond.fieldLink RX1 15 "TrunkYards$Ledger" "yards" "[I", Cond.fieldLink RX1 21 "TrunkYards$Ledger" "standings" "[I", Cond.methodLink RX4 181 yX3_setOpenBooking, Cond.instanceMethod yX3_setOpenBooking, Cond.selects RX3 yX3_setOpenBooking yX3_setOpenBooking, Cond.code yX3_setOpenBooking cX3_setOpenBooking 3 none, Cond.methodLink RX4 184 yX1_add, Cond.instanceMethod yX1_add, Cond.selects RX1 yX1_add yX1_add, Cond.code yX1_add cX1_add 3 none, Cond.fieldLink RX1 30 "TrunkYards$Ledger" "booked" "[I", Cond.fieldLink RX1 27 "TrunkYards$Ledger" "sizes" "[I"]
def wsL_ask : List Cond := .codeWith yL_ask cL_ask 5 (some .int) [(0, 10, 13, 36), (0, 10, 17, 13), (0, 10, 21, 15)] :: ((wsL_ask_r1 ++ (wsL_ask_r2 ++ (wsL_ask_r3 ++ (wsL_ask_r4 ++ wsL_ask_r5)))) ++ wsX40 ++ wsX30 ++ wsX10 ++ wsX20 ++ (vx_atS RX4 90 "java/lang/IllegalArgumentException" ["java/lang/RuntimeException", "java/lang/Exception"]).filter goodWord ++ (vx_atS RX4 77 "java/lang/IllegalStateException" ["java/lang/RuntimeException", "java/lang/Exception"]).filter goodWord ++ (vx_atS RX4 265 "java/lang/IndexOutOfBoundsException" ["java/lang/RuntimeException", "java/lang/Exception"]).filter goodWord)
def wsL_confirm_r1 : List Cond := [Cond.classLink RL 36 "java/lang/IndexOutOfBoundsException", Cond.methodLink RL 56 yX4_confirm, Cond.instanceMethod yX4_confirm, Cond.selects RX4 yX4_confirm yX4_confirm, Cond.initialized RX4, Cond.code yX4_confirm cX4_confirm 3 (some .int), Cond.classLink RX4 73 "java/lang/IllegalStateException", Cond.initialized "java/lang/IllegalStateException", Cond.fieldLink RX4 36 "TrunkYards" "board" "LTrunkYards$Switchboard;", Cond.fieldLink RX4 29 "TrunkYards" "ledger" "LTrunkYards$Ledger;", Cond.methodLink RX4 151 yX4_requireCall, Cond.instanceMethod yX4_requireCall, Cond.selects RX4 yX4_requireCall yX4_requireCall, Cond.code yX4_requireCall cX4_requireCall 2 none, Cond.classLink RX4 261 "java/lang/IndexOutOfBoundsException", Cond.initialized "java/lang/IndexOutOfBoundsException", Cond.methodLink RX4 313 yX3_hasBegun, Cond.instanceMethod yX3_hasBegun, Cond.selects RX3 yX3_hasBegun yX3_hasBegun, Cond.initialized RX3, Cond.code yX3_hasBegun cX3_hasBegun 2 (some .boolean), Cond.fieldLink RX3 42 "TrunkYards$Switchboard" "begun" "I", Cond.methodLink RX4 156 yX4_requireOngoing, Cond.instanceMethod yX4_requireOngoing]
def wsL_confirm_r2 : List Cond := [Cond.selects RX4 yX4_requireOngoing yX4_requireOngoing, Cond.code yX4_requireOngoing cX4_requireOngoing 2 none, Cond.methodLink RX4 318 yX3_goesOn, Cond.instanceMethod yX3_goesOn, Cond.selects RX3 yX3_goesOn yX3_goesOn, Cond.code yX3_goesOn cX3_goesOn 2 (some .boolean), Cond.fieldLink RX3 27 "TrunkYards$Switchboard" "ongoingCalls" "[I", Cond.fieldLink RX3 9 "TrunkYards$Switchboard" "customers" "[I", Cond.methodLink RX4 159 yX3_openBooking, Cond.instanceMethod yX3_openBooking, Cond.selects RX3 yX3_openBooking yX3_openBooking, Cond.code yX3_openBooking cX3_openBooking 2 (some .int), Cond.fieldLink RX3 18 "TrunkYards$Switchboard" "openBookings" "[I", Cond.methodLink RX4 189 yX1_keep, Cond.instanceMethod yX1_keep, Cond.selects RX1 yX1_keep yX1_keep, Cond.initialized RX1, Cond.code yX1_keep cX1_keep 3 none, Cond.fieldLink RX1 21 "TrunkYards$Ledger" "standings" "[I", Cond.methodLink RX4 181 yX3_setOpenBooking, Cond.instanceMethod yX3_setOpenBooking, Cond.selects RX3 yX3_setOpenBooking yX3_setOpenBooking, Cond.code yX3_setOpenBooking cX3_setOpenBooking 3 none]
def wsL_confirm : List Cond := .codeWith yL_confirm cL_confirm 4 (some .int) [(0, 9, 12, 36), (0, 9, 15, 15)] :: ((wsL_confirm_r1 ++ wsL_confirm_r2) ++ wsX40 ++ wsX30 ++ wsX10 ++ (vx_atS RX4 77 "java/lang/IllegalStateException" ["java/lang/RuntimeException", "java/lang/Exception"]).filter goodWord ++ (vx_atS RX4 265 "java/lang/IndexOutOfBoundsException" ["java/lang/RuntimeException", "java/lang/Exception"]).filter goodWord)
def wsL_resume_r1 : List Cond := [Cond.classLink RL 36 "java/lang/IndexOutOfBoundsException", Cond.methodLink RL 59 yX4_resume, Cond.instanceMethod yX4_resume, Cond.selects RX4 yX4_resume yX4_resume, Cond.initialized RX4, Cond.code yX4_resume cX4_resume 3 (some .int), Cond.classLink RX4 73 "java/lang/IllegalStateException", Cond.initialized "java/lang/IllegalStateException", Cond.fieldLink RX4 36 "TrunkYards" "board" "LTrunkYards$Switchboard;", Cond.fieldLink RX4 29 "TrunkYards" "ledger" "LTrunkYards$Ledger;", Cond.methodLink RX4 151 yX4_requireCall, Cond.instanceMethod yX4_requireCall, Cond.selects RX4 yX4_requireCall yX4_requireCall, Cond.code yX4_requireCall cX4_requireCall 2 none, Cond.classLink RX4 261 "java/lang/IndexOutOfBoundsException", Cond.initialized "java/lang/IndexOutOfBoundsException", Cond.methodLink RX4 313 yX3_hasBegun, Cond.instanceMethod yX3_hasBegun, Cond.selects RX3 yX3_hasBegun yX3_hasBegun, Cond.initialized RX3, Cond.code yX3_hasBegun cX3_hasBegun 2 (some .boolean), Cond.fieldLink RX3 42 "TrunkYards$Switchboard" "begun" "I", Cond.methodLink RX4 192 yX4_requireBooking, Cond.instanceMethod yX4_requireBooking]
def wsL_resume_r2 : List Cond := [Cond.selects RX4 yX4_requireBooking yX4_requireBooking, Cond.code yX4_requireBooking cX4_requireBooking 2 none, Cond.methodLink RX4 254 yX1_opened, Cond.instanceMethod yX1_opened, Cond.selects RX1 yX1_opened yX1_opened, Cond.initialized RX1, Cond.code yX1_opened cX1_opened 1 (some .int), Cond.fieldLink RX1 42 "TrunkYards$Ledger" "count" "I", Cond.methodLink RX4 156 yX4_requireOngoing, Cond.instanceMethod yX4_requireOngoing, Cond.selects RX4 yX4_requireOngoing yX4_requireOngoing, Cond.code yX4_requireOngoing cX4_requireOngoing 2 none, Cond.methodLink RX4 318 yX3_goesOn, Cond.instanceMethod yX3_goesOn, Cond.selects RX3 yX3_goesOn yX3_goesOn, Cond.code yX3_goesOn cX3_goesOn 2 (some .boolean), Cond.fieldLink RX3 27 "TrunkYards$Switchboard" "ongoingCalls" "[I", Cond.fieldLink RX3 9 "TrunkYards$Switchboard" "customers" "[I", Cond.methodLink RX4 159 yX3_openBooking, Cond.instanceMethod yX3_openBooking, Cond.selects RX3 yX3_openBooking yX3_openBooking, Cond.code yX3_openBooking cX3_openBooking 2 (some .int), Cond.fieldLink RX3 18 "TrunkYards$Switchboard" "openBookings" "[I", Cond.methodLink RX4 195 yX4_isWithin]
def wsL_resume_r3 : List Cond := [Cond.instanceMethod yX4_isWithin, Cond.selects RX4 yX4_isWithin yX4_isWithin, Cond.code yX4_isWithin cX4_isWithin 4 (some .boolean), Cond.methodLink RX4 258 yX1_standing, Cond.instanceMethod yX1_standing, Cond.selects RX1 yX1_standing yX1_standing, Cond.code yX1_standing cX1_standing 2 (some .int), Cond.fieldLink RX1 21 "TrunkYards$Ledger" "standings" "[I", Cond.methodLink RX4 336 yX1_customer, Cond.instanceMethod yX1_customer, Cond.selects RX1 yX1_customer yX1_customer, Cond.code yX1_customer cX1_customer 2 (some .int), Cond.fieldLink RX1 9 "TrunkYards$Ledger" "customers" "[I", Cond.methodLink RX4 174 yX3_customer, Cond.instanceMethod yX3_customer, Cond.selects RX3 yX3_customer yX3_customer, Cond.code yX3_customer cX3_customer 2 (some .int), Cond.methodLink RX4 337 yX1_yard, Cond.instanceMethod yX1_yard, Cond.selects RX1 yX1_yard yX1_yard, Cond.code yX1_yard cX1_yard 2 (some .int), Cond.fieldLink RX1 15 "TrunkYards$Ledger" "yards" "[I", Cond.methodLink RX4 168 yX3_yard, Cond.instanceMethod yX3_yard]
def wsL_resume_r4 : List Cond := [Cond.selects RX3 yX3_yard yX3_yard, Cond.code yX3_yard cX3_yard 2 (some .int), Cond.fieldLink RX3 15 "TrunkYards$Switchboard" "yards" "[I", Cond.methodLink RX4 189 yX1_keep, Cond.instanceMethod yX1_keep, Cond.selects RX1 yX1_keep yX1_keep, Cond.code yX1_keep cX1_keep 3 none, Cond.methodLink RX4 181 yX3_setOpenBooking, Cond.instanceMethod yX3_setOpenBooking, Cond.selects RX3 yX3_setOpenBooking yX3_setOpenBooking, Cond.code yX3_setOpenBooking cX3_setOpenBooking 3 none, Cond.methodLink RX4 201 yX1_size, Cond.instanceMethod yX1_size, Cond.selects RX1 yX1_size yX1_size, Cond.code yX1_size cX1_size 2 (some .int), Cond.fieldLink RX1 27 "TrunkYards$Ledger" "sizes" "[I"]
def wsL_resume : List Cond := .codeWith yL_resume cL_resume 5 (some .int) [(0, 10, 13, 36), (0, 10, 17, 15)] :: ((wsL_resume_r1 ++ (wsL_resume_r2 ++ (wsL_resume_r3 ++ wsL_resume_r4))) ++ wsX40 ++ wsX30 ++ wsX10 ++ (vx_atS RX4 77 "java/lang/IllegalStateException" ["java/lang/RuntimeException", "java/lang/Exception"]).filter goodWord ++ (vx_atS RX4 265 "java/lang/IndexOutOfBoundsException" ["java/lang/RuntimeException", "java/lang/Exception"]).filter goodWord)
def wsL_cancel_r1 : List Cond := [Cond.classLink RL 36 "java/lang/IndexOutOfBoundsException", Cond.methodLink RL 62 yX4_cancel, Cond.instanceMethod yX4_cancel, Cond.selects RX4 yX4_cancel yX4_cancel, Cond.initialized RX4, Cond.code yX4_cancel cX4_cancel 3 (some .int), Cond.classLink RX4 73 "java/lang/IllegalStateException", Cond.initialized "java/lang/IllegalStateException", Cond.fieldLink RX4 29 "TrunkYards" "ledger" "LTrunkYards$Ledger;", Cond.methodLink RX4 151 yX4_requireCall, Cond.instanceMethod yX4_requireCall, Cond.selects RX4 yX4_requireCall yX4_requireCall, Cond.code yX4_requireCall cX4_requireCall 2 none, Cond.classLink RX4 261 "java/lang/IndexOutOfBoundsException", Cond.initialized "java/lang/IndexOutOfBoundsException", Cond.fieldLink RX4 36 "TrunkYards" "board" "LTrunkYards$Switchboard;", Cond.methodLink RX4 313 yX3_hasBegun, Cond.instanceMethod yX3_hasBegun, Cond.selects RX3 yX3_hasBegun yX3_hasBegun, Cond.initialized RX3, Cond.code yX3_hasBegun cX3_hasBegun 2 (some .boolean), Cond.fieldLink RX3 42 "TrunkYards$Switchboard" "begun" "I", Cond.methodLink RX4 192 yX4_requireBooking, Cond.instanceMethod yX4_requireBooking]
def wsL_cancel_r2 : List Cond := [Cond.selects RX4 yX4_requireBooking yX4_requireBooking, Cond.code yX4_requireBooking cX4_requireBooking 2 none, Cond.methodLink RX4 254 yX1_opened, Cond.instanceMethod yX1_opened, Cond.selects RX1 yX1_opened yX1_opened, Cond.initialized RX1, Cond.code yX1_opened cX1_opened 1 (some .int), Cond.fieldLink RX1 42 "TrunkYards$Ledger" "count" "I", Cond.methodLink RX4 156 yX4_requireOngoing, Cond.instanceMethod yX4_requireOngoing, Cond.selects RX4 yX4_requireOngoing yX4_requireOngoing, Cond.code yX4_requireOngoing cX4_requireOngoing 2 none, Cond.methodLink RX4 318 yX3_goesOn, Cond.instanceMethod yX3_goesOn, Cond.selects RX3 yX3_goesOn yX3_goesOn, Cond.code yX3_goesOn cX3_goesOn 2 (some .boolean), Cond.fieldLink RX3 27 "TrunkYards$Switchboard" "ongoingCalls" "[I", Cond.fieldLink RX3 9 "TrunkYards$Switchboard" "customers" "[I", Cond.methodLink RX4 195 yX4_isWithin, Cond.instanceMethod yX4_isWithin, Cond.selects RX4 yX4_isWithin yX4_isWithin, Cond.code yX4_isWithin cX4_isWithin 4 (some .boolean), Cond.methodLink RX4 258 yX1_standing, Cond.instanceMethod yX1_standing]
def wsL_cancel_r3 : List Cond := [Cond.selects RX1 yX1_standing yX1_standing, Cond.code yX1_standing cX1_standing 2 (some .int), Cond.fieldLink RX1 21 "TrunkYards$Ledger" "standings" "[I", Cond.methodLink RX4 336 yX1_customer, Cond.instanceMethod yX1_customer, Cond.selects RX1 yX1_customer yX1_customer, Cond.code yX1_customer cX1_customer 2 (some .int), Cond.fieldLink RX1 9 "TrunkYards$Ledger" "customers" "[I", Cond.methodLink RX4 174 yX3_customer, Cond.instanceMethod yX3_customer, Cond.selects RX3 yX3_customer yX3_customer, Cond.code yX3_customer cX3_customer 2 (some .int), Cond.methodLink RX4 337 yX1_yard, Cond.instanceMethod yX1_yard, Cond.selects RX1 yX1_yard yX1_yard, Cond.code yX1_yard cX1_yard 2 (some .int), Cond.fieldLink RX1 15 "TrunkYards$Ledger" "yards" "[I", Cond.methodLink RX4 168 yX3_yard, Cond.instanceMethod yX3_yard, Cond.selects RX3 yX3_yard yX3_yard, Cond.code yX3_yard cX3_yard 2 (some .int), Cond.fieldLink RX3 15 "TrunkYards$Switchboard" "yards" "[I", Cond.methodLink RX4 206 yX1_release, Cond.instanceMethod yX1_release]
def wsL_cancel_r4 : List Cond := [Cond.selects RX1 yX1_release yX1_release, Cond.code yX1_release cX1_release 4 none, Cond.fieldLink RX1 27 "TrunkYards$Ledger" "sizes" "[I", Cond.fieldLink RX1 33 "TrunkYards$Ledger" "bookingOfWagon" "[I", Cond.methodLink RX1 46 yX1_get, Cond.instanceMethod yX1_get, Cond.selects RX1 yX1_get yX1_get, Cond.code yX1_get cX1_get 3 (some .int), Cond.fieldLink RX1 30 "TrunkYards$Ledger" "booked" "[I", Cond.methodLink RX4 201 yX1_size, Cond.instanceMethod yX1_size, Cond.selects RX1 yX1_size yX1_size, Cond.code yX1_size cX1_size 2 (some .int)]
def wsL_cancel : List Cond := .codeWith yL_cancel cL_cancel 5 (some .int) [(0, 10, 13, 36), (0, 10, 17, 15)] :: ((wsL_cancel_r1 ++ (wsL_cancel_r2 ++ (wsL_cancel_r3 ++ wsL_cancel_r4))) ++ wsX40 ++ wsX30 ++ wsX10 ++ (vx_atS RX4 77 "java/lang/IllegalStateException" ["java/lang/RuntimeException", "java/lang/Exception"]).filter goodWord ++ (vx_atS RX4 265 "java/lang/IndexOutOfBoundsException" ["java/lang/RuntimeException", "java/lang/Exception"]).filter goodWord)
def wsL_hangUp_r1 : List Cond := [Cond.classLink RL 36 "java/lang/IndexOutOfBoundsException", Cond.methodLink RL 65 yX4_hangUp, Cond.instanceMethod yX4_hangUp, Cond.selects RX4 yX4_hangUp yX4_hangUp, Cond.initialized RX4, Cond.code yX4_hangUp cX4_hangUp 3 (some .int), Cond.fieldLink RX4 36 "TrunkYards" "board" "LTrunkYards$Switchboard;", Cond.fieldLink RX4 29 "TrunkYards" "ledger" "LTrunkYards$Ledger;", Cond.methodLink RX4 151 yX4_requireCall, Cond.instanceMethod yX4_requireCall, Cond.selects RX4 yX4_requireCall yX4_requireCall, Cond.code yX4_requireCall cX4_requireCall 2 none, Cond.classLink RX4 261 "java/lang/IndexOutOfBoundsException", Cond.initialized "java/lang/IndexOutOfBoundsException", Cond.methodLink RX4 313 yX3_hasBegun, Cond.instanceMethod yX3_hasBegun, Cond.selects RX3 yX3_hasBegun yX3_hasBegun, Cond.initialized RX3, Cond.code yX3_hasBegun cX3_hasBegun 2 (some .boolean), Cond.fieldLink RX3 42 "TrunkYards$Switchboard" "begun" "I", Cond.methodLink RX4 156 yX4_requireOngoing, Cond.instanceMethod yX4_requireOngoing, Cond.selects RX4 yX4_requireOngoing yX4_requireOngoing, Cond.code yX4_requireOngoing cX4_requireOngoing 2 none]
def wsL_hangUp_r2 : List Cond := [Cond.classLink RX4 73 "java/lang/IllegalStateException", Cond.initialized "java/lang/IllegalStateException", Cond.methodLink RX4 318 yX3_goesOn, Cond.instanceMethod yX3_goesOn, Cond.selects RX3 yX3_goesOn yX3_goesOn, Cond.code yX3_goesOn cX3_goesOn 2 (some .boolean), Cond.fieldLink RX3 27 "TrunkYards$Switchboard" "ongoingCalls" "[I", Cond.fieldLink RX3 9 "TrunkYards$Switchboard" "customers" "[I", Cond.methodLink RX4 159 yX3_openBooking, Cond.instanceMethod yX3_openBooking, Cond.selects RX3 yX3_openBooking yX3_openBooking, Cond.code yX3_openBooking cX3_openBooking 2 (some .int), Cond.fieldLink RX3 18 "TrunkYards$Switchboard" "openBookings" "[I", Cond.methodLink RX4 209 yX3_end, Cond.instanceMethod yX3_end, Cond.selects RX3 yX3_end yX3_end, Cond.code yX3_end cX3_end 2 none, Cond.fieldLink RX3 21 "TrunkYards$Switchboard" "firstTrunks" "[I", Cond.fieldLink RX3 24 "TrunkYards$Switchboard" "secondTrunks" "[I", Cond.methodLink RX3 58 yX3_occupy, Cond.instanceMethod yX3_occupy, Cond.selects RX3 yX3_occupy yX3_occupy, Cond.code yX3_occupy cX3_occupy 3 none, Cond.fieldLink RX3 30 "TrunkYards$Switchboard" "trunks" "[I"]
def wsL_hangUp_r3 : List Cond := [Cond.methodLink RX4 206 yX1_release, Cond.instanceMethod yX1_release, Cond.selects RX1 yX1_release yX1_release, Cond.initialized RX1, Cond.code yX1_release cX1_release 4 none, Cond.fieldLink RX1 21 "TrunkYards$Ledger" "standings" "[I", Cond.fieldLink RX1 27 "TrunkYards$Ledger" "sizes" "[I", Cond.fieldLink RX1 33 "TrunkYards$Ledger" "bookingOfWagon" "[I", Cond.methodLink RX1 46 yX1_get, Cond.instanceMethod yX1_get, Cond.selects RX1 yX1_get yX1_get, Cond.code yX1_get cX1_get 3 (some .int), Cond.fieldLink RX1 30 "TrunkYards$Ledger" "booked" "[I", Cond.methodLink RX4 201 yX1_size, Cond.instanceMethod yX1_size, Cond.selects RX1 yX1_size yX1_size, Cond.code yX1_size cX1_size 2 (some .int)]
def wsL_hangUp : List Cond := .codeWith yL_hangUp cL_hangUp 4 (some .int) [(0, 9, 12, 36), (0, 9, 15, 15)] :: ((wsL_hangUp_r1 ++ (wsL_hangUp_r2 ++ wsL_hangUp_r3)) ++ wsX40 ++ wsX30 ++ wsX10 ++ (vx_atS RX4 265 "java/lang/IndexOutOfBoundsException" ["java/lang/RuntimeException", "java/lang/Exception"]).filter goodWord ++ (vx_atS RX4 77 "java/lang/IllegalStateException" ["java/lang/RuntimeException", "java/lang/Exception"]).filter goodWord)
def wsL_callOf : List Cond := .codeWith yL_callOf cL_callOf 4 (some .int) [(0, 9, 12, 13)] :: ([.classLink RL 13 "java/lang/IllegalArgumentException", .methodLink RL 68 yX4_callOf, .instanceMethod yX4_callOf, .selects RX4 yX4_callOf yX4_callOf, .initialized RX4, .code yX4_callOf cX4_callOf 2 (some .int), .fieldLink RX4 36 "TrunkYards" "board" "LTrunkYards$Switchboard;", .methodLink RX4 133 yX4_requireCustomer, .static yX4_requireCustomer, .code yX4_requireCustomer cX4_requireCustomer 1 none, .classLink RX4 86 "java/lang/IllegalArgumentException", .initialized "java/lang/IllegalArgumentException", .methodLink RX4 136 yX3_ongoing, .instanceMethod yX3_ongoing, .selects RX3 yX3_ongoing yX3_ongoing, .initialized RX3, .code yX3_ongoing cX3_ongoing 2 (some .int), .fieldLink RX3 27 "TrunkYards$Switchboard" "ongoingCalls" "[I"] ++ wsX40 ++ wsX30 ++ (vx_atS RX4 90 "java/lang/IllegalArgumentException" ["java/lang/RuntimeException", "java/lang/Exception"]).filter goodWord)
def wsL_way_r1 : List Cond := [Cond.classLink RL 36 "java/lang/IndexOutOfBoundsException", Cond.methodLink RL 71 yX4_way, Cond.instanceMethod yX4_way, Cond.selects RX4 yX4_way yX4_way, Cond.initialized RX4, Cond.code yX4_way cX4_way 2 (some .int), Cond.fieldLink RX4 36 "TrunkYards" "board" "LTrunkYards$Switchboard;", Cond.methodLink RX4 151 yX4_requireCall, Cond.instanceMethod yX4_requireCall, Cond.selects RX4 yX4_requireCall yX4_requireCall, Cond.code yX4_requireCall cX4_requireCall 2 none, Cond.classLink RX4 261 "java/lang/IndexOutOfBoundsException", Cond.initialized "java/lang/IndexOutOfBoundsException", Cond.methodLink RX4 313 yX3_hasBegun, Cond.instanceMethod yX3_hasBegun, Cond.selects RX3 yX3_hasBegun yX3_hasBegun, Cond.initialized RX3, Cond.code yX3_hasBegun cX3_hasBegun 2 (some .boolean), Cond.fieldLink RX3 42 "TrunkYards$Switchboard" "begun" "I", Cond.methodLink RX4 156 yX4_requireOngoing, Cond.instanceMethod yX4_requireOngoing, Cond.selects RX4 yX4_requireOngoing yX4_requireOngoing, Cond.code yX4_requireOngoing cX4_requireOngoing 2 none, Cond.classLink RX4 73 "java/lang/IllegalStateException"]
def wsL_way_r2 : List Cond := [Cond.initialized "java/lang/IllegalStateException", Cond.methodLink RX4 318 yX3_goesOn, Cond.instanceMethod yX3_goesOn, Cond.selects RX3 yX3_goesOn yX3_goesOn, Cond.code yX3_goesOn cX3_goesOn 2 (some .boolean), Cond.fieldLink RX3 27 "TrunkYards$Switchboard" "ongoingCalls" "[I", Cond.fieldLink RX3 9 "TrunkYards$Switchboard" "customers" "[I", Cond.methodLink RX4 212 yX3_trunksOf, Cond.instanceMethod yX3_trunksOf, Cond.selects RX3 yX3_trunksOf yX3_trunksOf, Cond.code yX3_trunksOf cX3_trunksOf 2 (some .int), Cond.fieldLink RX3 21 "TrunkYards$Switchboard" "firstTrunks" "[I", Cond.fieldLink RX3 24 "TrunkYards$Switchboard" "secondTrunks" "[I"]
def wsL_way : List Cond := .codeWith yL_way cL_way 4 (some .int) [(0, 9, 12, 36), (0, 9, 15, 15)] :: ((wsL_way_r1 ++ wsL_way_r2) ++ wsX40 ++ wsX30 ++ (vx_atS RX4 265 "java/lang/IndexOutOfBoundsException" ["java/lang/RuntimeException", "java/lang/Exception"]).filter goodWord ++ (vx_atS RX4 77 "java/lang/IllegalStateException" ["java/lang/RuntimeException", "java/lang/Exception"]).filter goodWord)
def wsL_cut_r1 : List Cond := [Cond.classLink RL 13 "java/lang/IllegalArgumentException", Cond.methodLink RL 74 yX4_cut, Cond.instanceMethod yX4_cut, Cond.selects RX4 yX4_cut yX4_cut, Cond.initialized RX4, Cond.code yX4_cut cX4_cut 6 (some .int), Cond.classLink RX4 73 "java/lang/IllegalStateException", Cond.initialized "java/lang/IllegalStateException", Cond.fieldLink RX4 36 "TrunkYards" "board" "LTrunkYards$Switchboard;", Cond.methodLink RX4 215 yX4_requireTrunk, Cond.static yX4_requireTrunk, Cond.code yX4_requireTrunk cX4_requireTrunk 3 none, Cond.classLink RX4 86 "java/lang/IllegalArgumentException", Cond.initialized "java/lang/IllegalArgumentException", Cond.methodLink RX4 306 yX4_isExchange, Cond.static yX4_isExchange, Cond.code yX4_isExchange cX4_isExchange 1 (some .boolean), Cond.methodLink RX4 218 yX4_slotOf, Cond.static yX4_slotOf, Cond.code yX4_slotOf cX4_slotOf 3 (some .int), Cond.methodLink RX4 221 yX3_trunkHas, Cond.instanceMethod yX3_trunkHas, Cond.selects RX3 yX3_trunkHas yX3_trunkHas, Cond.initialized RX3]
def wsL_cut_r2 : List Cond := [Cond.code yX3_trunkHas cX3_trunkHas 2 (some .int), Cond.fieldLink RX3 30 "TrunkYards$Switchboard" "trunks" "[I", Cond.methodLink RX4 226 yX4_cutOff, Cond.instanceMethod yX4_cutOff, Cond.selects RX4 yX4_cutOff yX4_cutOff, Cond.code yX4_cutOff cX4_cutOff 3 none, Cond.fieldLink RX4 29 "TrunkYards" "ledger" "LTrunkYards$Ledger;", Cond.fieldLink RX4 246 "TrunkYards" "now" "I", Cond.methodLink RX4 159 yX3_openBooking, Cond.instanceMethod yX3_openBooking, Cond.selects RX3 yX3_openBooking yX3_openBooking, Cond.code yX3_openBooking cX3_openBooking 2 (some .int), Cond.fieldLink RX3 18 "TrunkYards$Switchboard" "openBookings" "[I", Cond.methodLink RX4 209 yX3_end, Cond.instanceMethod yX3_end, Cond.selects RX3 yX3_end yX3_end, Cond.code yX3_end cX3_end 2 none, Cond.fieldLink RX3 27 "TrunkYards$Switchboard" "ongoingCalls" "[I", Cond.fieldLink RX3 9 "TrunkYards$Switchboard" "customers" "[I", Cond.fieldLink RX3 21 "TrunkYards$Switchboard" "firstTrunks" "[I", Cond.fieldLink RX3 24 "TrunkYards$Switchboard" "secondTrunks" "[I", Cond.methodLink RX3 58 yX3_occupy, Cond.instanceMethod yX3_occupy, Cond.selects RX3 yX3_occupy yX3_occupy]
def wsL_cut_r3 : List Cond := [Cond.code yX3_occupy cX3_occupy 3 none, Cond.methodLink RX4 338 yX1_halve, Cond.instanceMethod yX1_halve, Cond.selects RX1 yX1_halve yX1_halve, Cond.initialized RX1, Cond.code yX1_halve cX1_halve 3 none, Cond.fieldLink RX1 21 "TrunkYards$Ledger" "standings" "[I", Cond.fieldLink RX1 24 "TrunkYards$Ledger" "lapseTicks" "[I", Cond.methodLink RX4 229 yX3_setTrunk, Cond.instanceMethod yX3_setTrunk, Cond.selects RX3 yX3_setTrunk yX3_setTrunk, Cond.code yX3_setTrunk cX3_setTrunk 3 none]
def wsL_cut : List Cond := .codeWith yL_cut cL_cut 6 (some .int) [(0, 12, 15, 13), (0, 12, 19, 15)] :: ((wsL_cut_r1 ++ (wsL_cut_r2 ++ wsL_cut_r3)) ++ wsX40 ++ wsX30 ++ wsX10 ++ (vx_atS RX4 77 "java/lang/IllegalStateException" ["java/lang/RuntimeException", "java/lang/Exception"]).filter goodWord ++ (vx_atS RX4 90 "java/lang/IllegalArgumentException" ["java/lang/RuntimeException", "java/lang/Exception"]).filter goodWord)
def wsL_mend_r1 : List Cond := [Cond.classLink RL 13 "java/lang/IllegalArgumentException", Cond.methodLink RL 77 yX4_mend, Cond.instanceMethod yX4_mend, Cond.selects RX4 yX4_mend yX4_mend, Cond.initialized RX4, Cond.code yX4_mend cX4_mend 5 none, Cond.classLink RX4 73 "java/lang/IllegalStateException", Cond.initialized "java/lang/IllegalStateException", Cond.fieldLink RX4 36 "TrunkYards" "board" "LTrunkYards$Switchboard;", Cond.methodLink RX4 215 yX4_requireTrunk, Cond.static yX4_requireTrunk, Cond.code yX4_requireTrunk cX4_requireTrunk 3 none, Cond.classLink RX4 86 "java/lang/IllegalArgumentException", Cond.initialized "java/lang/IllegalArgumentException", Cond.methodLink RX4 306 yX4_isExchange, Cond.static yX4_isExchange, Cond.code yX4_isExchange cX4_isExchange 1 (some .boolean), Cond.methodLink RX4 218 yX4_slotOf, Cond.static yX4_slotOf, Cond.code yX4_slotOf cX4_slotOf 3 (some .int), Cond.methodLink RX4 221 yX3_trunkHas, Cond.instanceMethod yX3_trunkHas, Cond.selects RX3 yX3_trunkHas yX3_trunkHas, Cond.initialized RX3]
def wsL_mend_r2 : List Cond := [Cond.code yX3_trunkHas cX3_trunkHas 2 (some .int), Cond.fieldLink RX3 30 "TrunkYards$Switchboard" "trunks" "[I", Cond.methodLink RX4 229 yX3_setTrunk, Cond.instanceMethod yX3_setTrunk, Cond.selects RX3 yX3_setTrunk yX3_setTrunk, Cond.code yX3_setTrunk cX3_setTrunk 3 none]
def wsL_mend : List Cond := .codeWith yL_mend cL_mend 5 (some .int) [(0, 7, 10, 13), (0, 7, 14, 15)] :: ((wsL_mend_r1 ++ wsL_mend_r2) ++ wsX40 ++ wsX30 ++ (vx_atS RX4 77 "java/lang/IllegalStateException" ["java/lang/RuntimeException", "java/lang/Exception"]).filter goodWord ++ (vx_atS RX4 90 "java/lang/IllegalArgumentException" ["java/lang/RuntimeException", "java/lang/Exception"]).filter goodWord)
def wsL_trunk : List Cond := .codeWith yL_trunk cL_trunk 6 (some .int) [(0, 12, 15, 13)] :: ([.classLink RL 13 "java/lang/IllegalArgumentException", .methodLink RL 81 yX4_trunk, .instanceMethod yX4_trunk, .selects RX4 yX4_trunk yX4_trunk, .initialized RX4, .code yX4_trunk cX4_trunk 4 (some .int), .fieldLink RX4 36 "TrunkYards" "board" "LTrunkYards$Switchboard;", .methodLink RX4 215 yX4_requireTrunk, .static yX4_requireTrunk, .code yX4_requireTrunk cX4_requireTrunk 3 none, .classLink RX4 86 "java/lang/IllegalArgumentException", .initialized "java/lang/IllegalArgumentException", .methodLink RX4 306 yX4_isExchange, .static yX4_isExchange, .code yX4_isExchange cX4_isExchange 1 (some .boolean), .methodLink RX4 218 yX4_slotOf, .static yX4_slotOf, .code yX4_slotOf cX4_slotOf 3 (some .int), .methodLink RX4 221 yX3_trunkHas, .instanceMethod yX3_trunkHas, .selects RX3 yX3_trunkHas yX3_trunkHas, .initialized RX3, .code yX3_trunkHas cX3_trunkHas 2 (some .int), .fieldLink RX3 30 "TrunkYards$Switchboard" "trunks" "[I"] ++ wsX40 ++ wsX30 ++ (vx_atS RX4 90 "java/lang/IllegalArgumentException" ["java/lang/RuntimeException", "java/lang/Exception"]).filter goodWord)
def wsL_setLines_r1 : List Cond := [Cond.classLink RL 13 "java/lang/IllegalArgumentException", Cond.methodLink RL 84 yX4_setLines, Cond.instanceMethod yX4_setLines, Cond.selects RX4 yX4_setLines yX4_setLines, Cond.initialized RX4, Cond.code yX4_setLines cX4_setLines 3 (some .int), Cond.classLink RX4 86 "java/lang/IllegalArgumentException", Cond.initialized "java/lang/IllegalArgumentException", Cond.classLink RX4 73 "java/lang/IllegalStateException", Cond.initialized "java/lang/IllegalStateException", Cond.fieldLink RX4 36 "TrunkYards" "board" "LTrunkYards$Switchboard;", Cond.methodLink RX4 101 yX4_requireYard, Cond.static yX4_requireYard, Cond.code yX4_requireYard cX4_requireYard 1 none, Cond.methodLink RX4 297 yX4_isYard, Cond.static yX4_isYard, Cond.code yX4_isYard cX4_isYard 1 (some .boolean), Cond.methodLink RX4 236 yX3_callsTo, Cond.instanceMethod yX3_callsTo, Cond.selects RX3 yX3_callsTo yX3_callsTo, Cond.initialized RX3, Cond.code yX3_callsTo cX3_callsTo 5 (some .int), Cond.fieldLink RX3 27 "TrunkYards$Switchboard" "ongoingCalls" "[I", Cond.fieldLink RX3 15 "TrunkYards$Switchboard" "yards" "[I"]
def wsL_setLines_r2 : List Cond := [Cond.methodLink RX4 241 yX3_changeLines, Cond.instanceMethod yX3_changeLines, Cond.selects RX3 yX3_changeLines yX3_changeLines, Cond.code yX3_changeLines cX3_changeLines 4 (some .int), Cond.fieldLink RX3 33 "TrunkYards$Switchboard" "lineCounts" "[I"]
def wsL_setLines : List Cond := .codeWith yL_setLines cL_setLines 5 (some .int) [(0, 10, 13, 13), (0, 10, 17, 15)] :: ((wsL_setLines_r1 ++ wsL_setLines_r2) ++ wsX40 ++ wsX30 ++ (vx_atS RX4 90 "java/lang/IllegalArgumentException" ["java/lang/RuntimeException", "java/lang/Exception"]).filter goodWord ++ (vx_atS RX4 77 "java/lang/IllegalStateException" ["java/lang/RuntimeException", "java/lang/Exception"]).filter goodWord)
def wsL_pass_r1 : List Cond := [Cond.classLink RL 13 "java/lang/IllegalArgumentException", Cond.methodLink RL 87 yX4_pass, Cond.instanceMethod yX4_pass, Cond.selects RX4 yX4_pass yX4_pass, Cond.initialized RX4, Cond.code yX4_pass cX4_pass 2 (some .int), Cond.classLink RX4 86 "java/lang/IllegalArgumentException", Cond.initialized "java/lang/IllegalArgumentException", Cond.classLink RX4 73 "java/lang/IllegalStateException", Cond.initialized "java/lang/IllegalStateException", Cond.fieldLink RX4 246 "TrunkYards" "now" "I", Cond.fieldLink RX4 29 "TrunkYards" "ledger" "LTrunkYards$Ledger;", Cond.methodLink RX4 251 yX1_lapseAll, Cond.instanceMethod yX1_lapseAll, Cond.selects RX1 yX1_lapseAll yX1_lapseAll, Cond.initialized RX1, Cond.code yX1_lapseAll cX1_lapseAll 4 (some .int), Cond.fieldLink RX1 42 "TrunkYards$Ledger" "count" "I", Cond.fieldLink RX1 21 "TrunkYards$Ledger" "standings" "[I", Cond.fieldLink RX1 24 "TrunkYards$Ledger" "lapseTicks" "[I", Cond.methodLink RX1 50 yX1_release, Cond.instanceMethod yX1_release, Cond.selects RX1 yX1_release yX1_release, Cond.code yX1_release cX1_release 4 none]
def wsL_pass_r2 : List Cond := [Cond.fieldLink RX1 27 "TrunkYards$Ledger" "sizes" "[I", Cond.fieldLink RX1 33 "TrunkYards$Ledger" "bookingOfWagon" "[I", Cond.methodLink RX1 46 yX1_get, Cond.instanceMethod yX1_get, Cond.selects RX1 yX1_get yX1_get, Cond.code yX1_get cX1_get 3 (some .int), Cond.fieldLink RX1 30 "TrunkYards$Ledger" "booked" "[I"]
def wsL_pass : List Cond := .codeWith yL_pass cL_pass 4 (some .int) [(0, 9, 12, 13), (0, 9, 15, 15)] :: ((wsL_pass_r1 ++ wsL_pass_r2) ++ wsX40 ++ wsX10 ++ (vx_atS RX4 90 "java/lang/IllegalArgumentException" ["java/lang/RuntimeException", "java/lang/Exception"]).filter goodWord ++ (vx_atS RX4 77 "java/lang/IllegalStateException" ["java/lang/RuntimeException", "java/lang/Exception"]).filter goodWord)
def wsL_state : List Cond := .codeWith yL_state cL_state 4 (some .int) [(0, 9, 12, 36)] :: ([.classLink RL 36 "java/lang/IndexOutOfBoundsException", .methodLink RL 90 yX4_state, .instanceMethod yX4_state, .selects RX4 yX4_state yX4_state, .initialized RX4, .code yX4_state cX4_state 2 (some .int), .fieldLink RX4 29 "TrunkYards" "ledger" "LTrunkYards$Ledger;", .methodLink RX4 192 yX4_requireBooking, .instanceMethod yX4_requireBooking, .selects RX4 yX4_requireBooking yX4_requireBooking, .code yX4_requireBooking cX4_requireBooking 2 none, .classLink RX4 261 "java/lang/IndexOutOfBoundsException", .initialized "java/lang/IndexOutOfBoundsException", .methodLink RX4 254 yX1_opened, .instanceMethod yX1_opened, .selects RX1 yX1_opened yX1_opened, .initialized RX1, .code yX1_opened cX1_opened 1 (some .int), .fieldLink RX1 42 "TrunkYards$Ledger" "count" "I", .methodLink RX4 258 yX1_standing, .instanceMethod yX1_standing, .selects RX1 yX1_standing yX1_standing, .code yX1_standing cX1_standing 2 (some .int), .fieldLink RX1 21 "TrunkYards$Ledger" "standings" "[I"] ++ wsX40 ++ wsX10 ++ (vx_atS RX4 265 "java/lang/IndexOutOfBoundsException" ["java/lang/RuntimeException", "java/lang/Exception"]).filter goodWord)
def wsL_wagons : List Cond := .codeWith yL_wagons cL_wagons 4 (some .int) [(0, 9, 12, 36)] :: ([.classLink RL 36 "java/lang/IndexOutOfBoundsException", .methodLink RL 93 yX4_wagons, .instanceMethod yX4_wagons, .selects RX4 yX4_wagons yX4_wagons, .initialized RX4, .code yX4_wagons cX4_wagons 2 (some .int), .fieldLink RX4 29 "TrunkYards" "ledger" "LTrunkYards$Ledger;", .methodLink RX4 192 yX4_requireBooking, .instanceMethod yX4_requireBooking, .selects RX4 yX4_requireBooking yX4_requireBooking, .code yX4_requireBooking cX4_requireBooking 2 none, .classLink RX4 261 "java/lang/IndexOutOfBoundsException", .initialized "java/lang/IndexOutOfBoundsException", .methodLink RX4 254 yX1_opened, .instanceMethod yX1_opened, .selects RX1 yX1_opened yX1_opened, .initialized RX1, .code yX1_opened cX1_opened 1 (some .int), .fieldLink RX1 42 "TrunkYards$Ledger" "count" "I", .methodLink RX4 201 yX1_size, .instanceMethod yX1_size, .selects RX1 yX1_size yX1_size, .code yX1_size cX1_size 2 (some .int), .fieldLink RX1 27 "TrunkYards$Ledger" "sizes" "[I"] ++ wsX40 ++ wsX10 ++ (vx_atS RX4 265 "java/lang/IndexOutOfBoundsException" ["java/lang/RuntimeException", "java/lang/Exception"]).filter goodWord)
def wsL_wagonOf_r1 : List Cond := [Cond.classLink RL 36 "java/lang/IndexOutOfBoundsException", Cond.methodLink RL 96 yX4_wagonOf, Cond.instanceMethod yX4_wagonOf, Cond.selects RX4 yX4_wagonOf yX4_wagonOf, Cond.initialized RX4, Cond.code yX4_wagonOf cX4_wagonOf 3 (some .int), Cond.classLink RX4 261 "java/lang/IndexOutOfBoundsException", Cond.initialized "java/lang/IndexOutOfBoundsException", Cond.fieldLink RX4 29 "TrunkYards" "ledger" "LTrunkYards$Ledger;", Cond.methodLink RX4 192 yX4_requireBooking, Cond.instanceMethod yX4_requireBooking, Cond.selects RX4 yX4_requireBooking yX4_requireBooking, Cond.code yX4_requireBooking cX4_requireBooking 2 none, Cond.methodLink RX4 254 yX1_opened, Cond.instanceMethod yX1_opened, Cond.selects RX1 yX1_opened yX1_opened, Cond.initialized RX1, Cond.code yX1_opened cX1_opened 1 (some .int), Cond.fieldLink RX1 42 "TrunkYards$Ledger" "count" "I", Cond.methodLink RX4 201 yX1_size, Cond.instanceMethod yX1_size, Cond.selects RX1 yX1_size yX1_size, Cond.code yX1_size cX1_size 2 (some .int), Cond.fieldLink RX1 27 "TrunkYards$Ledger" "sizes" "[I"]
def wsL_wagonOf_r2 : List Cond := [Cond.methodLink RX4 266 yX1_get, Cond.instanceMethod yX1_get, Cond.selects RX1 yX1_get yX1_get, Cond.code yX1_get cX1_get 3 (some .int), Cond.fieldLink RX1 30 "TrunkYards$Ledger" "booked" "[I"]
def wsL_wagonOf : List Cond := .codeWith yL_wagonOf cL_wagonOf 5 (some .int) [(0, 10, 13, 36)] :: ((wsL_wagonOf_r1 ++ wsL_wagonOf_r2) ++ wsX40 ++ wsX10 ++ (vx_atS RX4 265 "java/lang/IndexOutOfBoundsException" ["java/lang/RuntimeException", "java/lang/Exception"]).filter goodWord)
def wsL_lapses_r1 : List Cond := [Cond.classLink RL 36 "java/lang/IndexOutOfBoundsException", Cond.methodLink RL 99 yX4_lapses, Cond.instanceMethod yX4_lapses, Cond.selects RX4 yX4_lapses yX4_lapses, Cond.initialized RX4, Cond.code yX4_lapses cX4_lapses 2 (some .int), Cond.classLink RX4 73 "java/lang/IllegalStateException", Cond.initialized "java/lang/IllegalStateException", Cond.fieldLink RX4 29 "TrunkYards" "ledger" "LTrunkYards$Ledger;", Cond.fieldLink RX4 246 "TrunkYards" "now" "I", Cond.methodLink RX4 192 yX4_requireBooking, Cond.instanceMethod yX4_requireBooking, Cond.selects RX4 yX4_requireBooking yX4_requireBooking, Cond.code yX4_requireBooking cX4_requireBooking 2 none, Cond.classLink RX4 261 "java/lang/IndexOutOfBoundsException", Cond.initialized "java/lang/IndexOutOfBoundsException", Cond.methodLink RX4 254 yX1_opened, Cond.instanceMethod yX1_opened, Cond.selects RX1 yX1_opened yX1_opened, Cond.initialized RX1, Cond.code yX1_opened cX1_opened 1 (some .int), Cond.fieldLink RX1 42 "TrunkYards$Ledger" "count" "I", Cond.methodLink RX4 258 yX1_standing, Cond.instanceMethod yX1_standing]
def wsL_lapses_r2 : List Cond := [Cond.selects RX1 yX1_standing yX1_standing, Cond.code yX1_standing cX1_standing 2 (some .int), Cond.fieldLink RX1 21 "TrunkYards$Ledger" "standings" "[I", Cond.methodLink RX4 269 yX1_lapseTick, Cond.instanceMethod yX1_lapseTick, Cond.selects RX1 yX1_lapseTick yX1_lapseTick, Cond.code yX1_lapseTick cX1_lapseTick 2 (some .int), Cond.fieldLink RX1 24 "TrunkYards$Ledger" "lapseTicks" "[I"]
def wsL_lapses : List Cond := .codeWith yL_lapses cL_lapses 4 (some .int) [(0, 9, 12, 36), (0, 9, 15, 15)] :: ((wsL_lapses_r1 ++ wsL_lapses_r2) ++ wsX40 ++ wsX10 ++ (vx_atS RX4 77 "java/lang/IllegalStateException" ["java/lang/RuntimeException", "java/lang/Exception"]).filter goodWord ++ (vx_atS RX4 265 "java/lang/IndexOutOfBoundsException" ["java/lang/RuntimeException", "java/lang/Exception"]).filter goodWord)
def wsL_depart_r1 : List Cond := [Cond.classLink RL 13 "java/lang/IllegalArgumentException", Cond.methodLink RL 102 yX4_depart, Cond.instanceMethod yX4_depart, Cond.selects RX4 yX4_depart yX4_depart, Cond.initialized RX4, Cond.code yX4_depart cX4_depart 6 (some .int), Cond.classLink RX4 86 "java/lang/IllegalArgumentException", Cond.initialized "java/lang/IllegalArgumentException", Cond.classLink RX4 73 "java/lang/IllegalStateException", Cond.initialized "java/lang/IllegalStateException", Cond.fieldLink RX4 274 "TrunkYards" "departed" "I", Cond.fieldLink RX4 54 "TrunkYards" "destination" "[I", Cond.fieldLink RX4 12 "TrunkYards" "rows" "LTrunkYards$Rows;", Cond.methodLink RX4 57 yX4_requireTrack, Cond.static yX4_requireTrack, Cond.code yX4_requireTrack cX4_requireTrack 2 none, Cond.methodLink RX4 297 yX4_isYard, Cond.static yX4_isYard, Cond.code yX4_isYard cX4_isYard 1 (some .boolean), Cond.methodLink RX4 287 yX4_isTrack, Cond.static yX4_isTrack, Cond.code yX4_isTrack cX4_isTrack 1 (some .boolean), Cond.methodLink RX4 101 yX4_requireYard, Cond.static yX4_requireYard]
def wsL_depart_r2 : List Cond := [Cond.code yX4_requireYard cX4_requireYard 1 none, Cond.methodLink RX4 61 yX4_rowOf, Cond.static yX4_rowOf, Cond.code yX4_rowOf cX4_rowOf 2 (some .int), Cond.methodLink RX4 277 yX4_canDepart, Cond.instanceMethod yX4_canDepart, Cond.selects RX4 yX4_canDepart yX4_canDepart, Cond.code yX4_canDepart cX4_canDepart 5 (some .boolean), Cond.fieldLink RX4 29 "TrunkYards" "ledger" "LTrunkYards$Ledger;", Cond.methodLink RX4 91 yX2_count, Cond.instanceMethod yX2_count, Cond.selects RX2 yX2_count yX2_count, Cond.initialized RX2, Cond.code yX2_count cX2_count 2 (some .int), Cond.fieldLink RX2 9 "TrunkYards$Rows" "counts" "[I", Cond.methodLink RX4 107 yX2_get, Cond.instanceMethod yX2_get, Cond.selects RX2 yX2_get yX2_get, Cond.code yX2_get cX2_get 3 (some .int), Cond.fieldLink RX2 15 "TrunkYards$Rows" "standing" "[I", Cond.methodLink RX4 130 yX1_bookingFor, Cond.instanceMethod yX1_bookingFor, Cond.selects RX1 yX1_bookingFor yX1_bookingFor, Cond.initialized RX1]
def wsL_depart_r3 : List Cond := [Cond.code yX1_bookingFor cX1_bookingFor 2 (some .int), Cond.fieldLink RX1 33 "TrunkYards$Ledger" "bookingOfWagon" "[I", Cond.methodLink RX4 258 yX1_standing, Cond.instanceMethod yX1_standing, Cond.selects RX1 yX1_standing yX1_standing, Cond.code yX1_standing cX1_standing 2 (some .int), Cond.fieldLink RX1 21 "TrunkYards$Ledger" "standings" "[I", Cond.methodLink RX4 341 yX4_standsWhole, Cond.instanceMethod yX4_standsWhole, Cond.selects RX4 yX4_standsWhole yX4_standsWhole, Cond.code yX4_standsWhole cX4_standsWhole 5 (some .boolean), Cond.methodLink RX4 201 yX1_size, Cond.instanceMethod yX1_size, Cond.selects RX1 yX1_size yX1_size, Cond.code yX1_size cX1_size 2 (some .int), Cond.fieldLink RX1 27 "TrunkYards$Ledger" "sizes" "[I", Cond.methodLink RX4 282 yX4_load, Cond.instanceMethod yX4_load, Cond.selects RX4 yX4_load yX4_load, Cond.code yX4_load cX4_load 5 none, Cond.fieldLink RX4 40 "TrunkYards" "lastGrain" "[I", Cond.methodLink RX4 163 yX1_grain, Cond.instanceMethod yX1_grain, Cond.selects RX1 yX1_grain yX1_grain]
def wsL_depart_r4 : List Cond := [Cond.code yX1_grain cX1_grain 2 (some .int), Cond.fieldLink RX1 18 "TrunkYards$Ledger" "grains" "[I", Cond.methodLink RX4 189 yX1_keep, Cond.instanceMethod yX1_keep, Cond.selects RX1 yX1_keep yX1_keep, Cond.code yX1_keep cX1_keep 3 none, Cond.methodLink RX4 97 yX4_moveLast, Cond.instanceMethod yX4_moveLast, Cond.selects RX4 yX4_moveLast yX4_moveLast, Cond.code yX4_moveLast cX4_moveLast 4 none, Cond.fieldLink RX4 22 "TrunkYards" "history" "LTrunkYards$History;", Cond.methodLink RX4 327 yX2_move, Cond.instanceMethod yX2_move, Cond.selects RX2 yX2_move yX2_move, Cond.code yX2_move cX2_move 7 none, Cond.methodLink RX4 330 yX0_noteMove, Cond.instanceMethod yX0_noteMove, Cond.selects RX0 yX0_noteMove yX0_noteMove, Cond.initialized RX0, Cond.code yX0_noteMove cX0_noteMove 4 none, Cond.fieldLink RX0 25 "TrunkYards$History" "noted" "I", Cond.fieldLink RX0 9 "TrunkYards$History" "from" "[I", Cond.fieldLink RX0 15 "TrunkYards$History" "to" "[I", Cond.fieldLink RX0 18 "TrunkYards$History" "many" "[I"]
def wsL_depart : List Cond := .codeWith yL_depart cL_depart 6 (some .int) [(0, 12, 15, 13), (0, 12, 19, 15)] :: ((wsL_depart_r1 ++ (wsL_depart_r2 ++ (wsL_depart_r3 ++ wsL_depart_r4))) ++ wsX40 ++ wsX20 ++ wsX10 ++ wsX00 ++ (vx_atS RX4 90 "java/lang/IllegalArgumentException" ["java/lang/RuntimeException", "java/lang/Exception"]).filter goodWord ++ (vx_atS RX4 77 "java/lang/IllegalStateException" ["java/lang/RuntimeException", "java/lang/Exception"]).filter goodWord)
def wsL_arrive_r1 : List Cond := [Cond.classLink RL 36 "java/lang/IndexOutOfBoundsException", Cond.methodLink RL 105 yX4_arrive, Cond.instanceMethod yX4_arrive, Cond.selects RX4 yX4_arrive yX4_arrive, Cond.initialized RX4, Cond.code yX4_arrive cX4_arrive 6 (some .int), Cond.classLink RX4 261 "java/lang/IndexOutOfBoundsException", Cond.initialized "java/lang/IndexOutOfBoundsException", Cond.classLink RX4 86 "java/lang/IllegalArgumentException", Cond.initialized "java/lang/IllegalArgumentException", Cond.classLink RX4 73 "java/lang/IllegalStateException", Cond.initialized "java/lang/IllegalStateException", Cond.fieldLink RX4 274 "TrunkYards" "departed" "I", Cond.fieldLink RX4 54 "TrunkYards" "destination" "[I", Cond.fieldLink RX4 12 "TrunkYards" "rows" "LTrunkYards$Rows;", Cond.methodLink RX4 287 yX4_isTrack, Cond.static yX4_isTrack, Cond.code yX4_isTrack cX4_isTrack 1 (some .boolean), Cond.methodLink RX4 61 yX4_rowOf, Cond.static yX4_rowOf, Cond.code yX4_rowOf cX4_rowOf 2 (some .int), Cond.methodLink RX4 91 yX2_count, Cond.instanceMethod yX2_count, Cond.selects RX2 yX2_count yX2_count]
def wsL_arrive_r2 : List Cond := [Cond.initialized RX2, Cond.code yX2_count cX2_count 2 (some .int), Cond.fieldLink RX2 9 "TrunkYards$Rows" "counts" "[I", Cond.methodLink RX4 69 yX2_hasRoom, Cond.instanceMethod yX2_hasRoom, Cond.selects RX2 yX2_hasRoom yX2_hasRoom, Cond.code yX2_hasRoom cX2_hasRoom 3 (some .boolean), Cond.methodLink RX4 294 yX4_unload, Cond.instanceMethod yX4_unload, Cond.selects RX4 yX4_unload yX4_unload, Cond.code yX4_unload cX4_unload 4 none, Cond.fieldLink RX4 29 "TrunkYards" "ledger" "LTrunkYards$Ledger;", Cond.methodLink RX4 107 yX2_get, Cond.instanceMethod yX2_get, Cond.selects RX2 yX2_get yX2_get, Cond.code yX2_get cX2_get 3 (some .int), Cond.fieldLink RX2 15 "TrunkYards$Rows" "standing" "[I", Cond.methodLink RX4 130 yX1_bookingFor, Cond.instanceMethod yX1_bookingFor, Cond.selects RX1 yX1_bookingFor yX1_bookingFor, Cond.initialized RX1, Cond.code yX1_bookingFor cX1_bookingFor 2 (some .int), Cond.fieldLink RX1 33 "TrunkYards$Ledger" "bookingOfWagon" "[I", Cond.methodLink RX4 206 yX1_release]
def wsL_arrive_r3 : List Cond := [Cond.instanceMethod yX1_release, Cond.selects RX1 yX1_release yX1_release, Cond.code yX1_release cX1_release 4 none, Cond.fieldLink RX1 21 "TrunkYards$Ledger" "standings" "[I", Cond.fieldLink RX1 27 "TrunkYards$Ledger" "sizes" "[I", Cond.methodLink RX1 46 yX1_get, Cond.instanceMethod yX1_get, Cond.selects RX1 yX1_get yX1_get, Cond.code yX1_get cX1_get 3 (some .int), Cond.fieldLink RX1 30 "TrunkYards$Ledger" "booked" "[I", Cond.methodLink RX4 97 yX4_moveLast, Cond.instanceMethod yX4_moveLast, Cond.selects RX4 yX4_moveLast yX4_moveLast, Cond.code yX4_moveLast cX4_moveLast 4 none, Cond.fieldLink RX4 22 "TrunkYards" "history" "LTrunkYards$History;", Cond.methodLink RX4 327 yX2_move, Cond.instanceMethod yX2_move, Cond.selects RX2 yX2_move yX2_move, Cond.code yX2_move cX2_move 7 none, Cond.methodLink RX4 330 yX0_noteMove, Cond.instanceMethod yX0_noteMove, Cond.selects RX0 yX0_noteMove yX0_noteMove, Cond.initialized RX0, Cond.code yX0_noteMove cX0_noteMove 4 none]
def wsL_arrive_r4 : List Cond := [Cond.fieldLink RX0 25 "TrunkYards$History" "noted" "I", Cond.fieldLink RX0 9 "TrunkYards$History" "from" "[I", Cond.fieldLink RX0 15 "TrunkYards$History" "to" "[I", Cond.fieldLink RX0 18 "TrunkYards$History" "many" "[I"]
def wsL_arrive : List Cond := .codeWith yL_arrive cL_arrive 5 (some .int) [(0, 10, 13, 36), (0, 10, 17, 13), (0, 10, 21, 15)] :: ((wsL_arrive_r1 ++ (wsL_arrive_r2 ++ (wsL_arrive_r3 ++ wsL_arrive_r4))) ++ wsX40 ++ wsX20 ++ wsX10 ++ wsX00 ++ (vx_atS RX4 265 "java/lang/IndexOutOfBoundsException" ["java/lang/RuntimeException", "java/lang/Exception"]).filter goodWord ++ (vx_atS RX4 90 "java/lang/IllegalArgumentException" ["java/lang/RuntimeException", "java/lang/Exception"]).filter goodWord ++ (vx_atS RX4 77 "java/lang/IllegalStateException" ["java/lang/RuntimeException", "java/lang/Exception"]).filter goodWord)
theorem inJx145de : ∀ w ∈ wsJx145de0, w ∈ lw_tbl := by decide +kernel
theorem inJ0 : ∀ w ∈ wsJ00, w ∈ lw_tbl := by decide +kernel
theorem inJ7 : ∀ w ∈ wsJ70, w ∈ lw_tbl := by decide +kernel
set_option maxRecDepth 20000 in
theorem ggX0_notePlacing_X0_noteMove : GoodIn wsX0_notePlacing wsX0_noteMove := goodIn_r _ [5, 6, 7, 8, 9, 10, 11, 12, 13] (by decide +kernel) (by decide +kernel)
set_option maxRecDepth 20000 in
theorem gX0_notePlacing_X0_noteMove : GoodIn wsX0_notePlacing (wsV RX0 21 RX0 yX0_noteMove wsX0_noteMove) := goodIn_app (goodIn_of _ (by decide +kernel)) ggX0_notePlacing_X0_noteMove
set_option maxRecDepth 20000 in
theorem ggX0_replay_X2_clear : GoodIn wsX0_replay wsX2_clear := goodIn_r _ [9, 10, 11, 12, 13, 14, 28, 29] (by decide +kernel) (by decide +kernel)
set_option maxRecDepth 20000 in
theorem gX0_replay_X2_clear : GoodIn wsX0_replay (wsV RX0 29 RX2 yX2_clear wsX2_clear) := goodIn_app (goodIn_of _ (by decide +kernel)) ggX0_replay_X2_clear
set_option maxRecDepth 20000 in
theorem ggX0_replay_X2_put : GoodIn wsX0_replay wsX2_put := goodIn_r _ [18, 19, 10, 28, 29] (by decide +kernel) (by decide +kernel)
set_option maxRecDepth 20000 in
theorem gX0_replay_X2_put : GoodIn wsX0_replay (wsV RX0 34 RX2 yX2_put wsX2_put) := goodIn_app (goodIn_of _ (by decide +kernel)) ggX0_replay_X2_put
set_option maxRecDepth 20000 in
theorem ggX0_replay_X2_move : GoodIn wsX0_replay wsX2_move := goodIn_r _ [23, 10, 19, 28, 29] (by decide +kernel) (by decide +kernel)
set_option maxRecDepth 20000 in
theorem gX0_replay_X2_move : GoodIn wsX0_replay (wsV RX0 38 RX2 yX2_move wsX2_move) := goodIn_app (goodIn_of _ (by decide +kernel)) ggX0_replay_X2_move
set_option maxRecDepth 20000 in
theorem ggX1_init_J7_fill_53178 : GoodIn wsX1_init wsJ7_fill_53178 := goodIn_r _ [16] (by decide +kernel) (by decide +kernel)
set_option maxRecDepth 20000 in
theorem gX1_init_J7_fill_53178 : GoodIn wsX1_init (va_wsS RX1 36 yJ7_fill_53178 wsJ7_fill_53178) := goodIn_app (goodIn_of _ (by decide +kernel)) ggX1_init_J7_fill_53178
set_option maxRecDepth 20000 in
theorem ggX1_release_X1_get : GoodIn wsX1_release wsX1_get := goodIn_r _ [8, 9, 10, 11, 12, 13, 14, 15, 16, 17, 18] (by decide +kernel) (by decide +kernel)
set_option maxRecDepth 20000 in
theorem gX1_release_X1_get : GoodIn wsX1_release (wsV RX1 46 RX1 yX1_get wsX1_get) := goodIn_app (goodIn_of _ (by decide +kernel)) ggX1_release_X1_get
set_option maxRecDepth 20000 in
theorem ggX1_lapseAll_X1_release : GoodIn wsX1_lapseAll wsX1_release := goodIn_r _ [8, 2, 9, 10, 11, 12, 13, 7, 14, 15, 16, 17, 18, 19, 20, 21, 22, 23, 24] (by decide +kernel) (by decide +kernel)
set_option maxRecDepth 20000 in
theorem gX1_lapseAll_X1_release : GoodIn wsX1_lapseAll (wsV RX1 50 RX1 yX1_release wsX1_release) := goodIn_app (goodIn_of _ (by decide +kernel)) ggX1_lapseAll_X1_release
set_option maxRecDepth 20000 in
theorem ggX2_findOnTracks_X2_get : GoodIn wsX2_findOnTracks wsX2_get := goodIn_r _ [6, 7, 8, 9] (by decide +kernel) (by decide +kernel)
set_option maxRecDepth 20000 in
theorem gX2_findOnTracks_X2_get : GoodIn wsX2_findOnTracks (wsV RX2 18 RX2 yX2_get wsX2_get) := goodIn_app (goodIn_of _ (by decide +kernel)) ggX2_findOnTracks_X2_get
set_option maxRecDepth 20000 in
theorem ggX2_clear_J7_fill_53178 : GoodIn wsX2_clear wsJ7_fill_53178 := goodIn_r _ [5] (by decide +kernel) (by decide +kernel)
set_option maxRecDepth 20000 in
theorem gX2_clear_J7_fill_53178 : GoodIn wsX2_clear (va_wsS RX2 22 yJ7_fill_53178 wsJ7_fill_53178) := goodIn_app (goodIn_of _ (by decide +kernel)) ggX2_clear_J7_fill_53178
set_option maxRecDepth 20000 in
theorem ggX3_init_J7_fill_53178 : GoodIn wsX3_init wsJ7_fill_53178 := goodIn_r _ [16] (by decide +kernel) (by decide +kernel)
set_option maxRecDepth 20000 in
theorem gX3_init_J7_fill_53178 : GoodIn wsX3_init (va_wsS RX3 36 yJ7_fill_53178 wsJ7_fill_53178) := goodIn_app (goodIn_of _ (by decide +kernel)) ggX3_init_J7_fill_53178
set_option maxRecDepth 20000 in
theorem ggX3_begin_X3_callsTo : GoodIn wsX3_begin wsX3_callsTo := goodIn_r _ [6, 7, 8, 30, 31, 32, 33, 34, 35, 36, 37, 38] (by decide +kernel) (by decide +kernel)
set_option maxRecDepth 20000 in
theorem gX3_begin_X3_callsTo : GoodIn wsX3_begin (wsV RX3 46 RX3 yX3_callsTo wsX3_callsTo) := goodIn_app (goodIn_of _ (by decide +kernel)) ggX3_begin_X3_callsTo
set_option maxRecDepth 20000 in
theorem ggX3_begin_X3_connect : GoodIn wsX3_begin wsX3_connect := goodIn_r _ [12, 13, 14, 8, 15, 16, 17, 7, 18, 19, 20, 5, 21, 22, 30, 31, 32, 33, 34, 35, 36, 37, 38] (by decide +kernel) (by decide +kernel)
set_option maxRecDepth 20000 in
theorem gX3_begin_X3_connect : GoodIn wsX3_begin (wsV RX3 50 RX3 yX3_connect wsX3_connect) := goodIn_app (goodIn_of _ (by decide +kernel)) ggX3_begin_X3_connect
set_option maxRecDepth 20000 in
theorem ggX3_begin_X3_freeTrunk : GoodIn wsX3_begin wsX3_freeTrunk := goodIn_r _ [26, 22, 27, 28, 29, 30, 31, 32, 33, 34, 35, 36, 37, 38] (by decide +kernel) (by decide +kernel)
set_option maxRecDepth 20000 in
theorem gX3_begin_X3_freeTrunk : GoodIn wsX3_begin (wsV RX3 54 RX3 yX3_freeTrunk wsX3_freeTrunk) := goodIn_app (goodIn_of _ (by decide +kernel)) ggX3_begin_X3_freeTrunk
set_option maxRecDepth 20000 in
theorem ggX3_end_X3_occupy : GoodIn wsX3_end wsX3_occupy := goodIn_r _ [9, 10, 11, 12, 13, 14, 15, 16, 17, 18, 19] (by decide +kernel) (by decide +kernel)
set_option maxRecDepth 20000 in
theorem gX3_end_X3_occupy : GoodIn wsX3_end (wsV RX3 58 RX3 yX3_occupy wsX3_occupy) := goodIn_app (goodIn_of _ (by decide +kernel)) ggX3_end_X3_occupy
set_option maxRecDepth 20000 in
theorem ggX3_connect_X3_occupy : GoodIn wsX3_connect wsX3_occupy := goodIn_r _ [12, 13, 14, 15, 16, 17, 18, 19, 20, 21, 22] (by decide +kernel) (by decide +kernel)
set_option maxRecDepth 20000 in
theorem gX3_connect_X3_occupy : GoodIn wsX3_connect (wsV RX3 58 RX3 yX3_occupy wsX3_occupy) := goodIn_app (goodIn_of _ (by decide +kernel)) ggX3_connect_X3_occupy
set_option maxRecDepth 20000 in
theorem ggX3_freeTrunk_X4_slotOf : GoodIn wsX3_freeTrunk wsX4_slotOf := goodIn_r _ [4] (by decide +kernel) (by decide +kernel)
set_option maxRecDepth 20000 in
theorem gX3_freeTrunk_X4_slotOf_n62 : GoodIn wsX3_freeTrunk (wsX4_slotOf) := ggX3_freeTrunk_X4_slotOf
abbrev vwCl : List vw_C := [(RX0, TX0, 4), (RX1, TX1, 9), (RX2, TX2, 2), (RX3, TX3, 9), (RX4, TX4, 12), (RX5, TX5, 30)]
/-! ===== END printed: names ===== -/
end
section
def dtX0_init_0 : List (Nat × Instr × Nat) := [(0, .aload_n 0, 1), (1, .invokespecial 3, 3), (4, .aload_n 0, 1), (5, .sipush 512, 3), (8, .newarray .int, 2), (10, .putfield 9, 3), (13, .aload_n 0, 1), (14, .sipush 512, 3), (17, .newarray .int, 2), (19, .putfield 15, 3), (22, .aload_n 0, 1), (23, .sipush 512, 3), (26, .newarray .int, 2), (28, .putfield 18, 3), (31, .return_, 1)]
set_option maxRecDepth 20000 in
theorem dvX0_init_0 : ∀ q ∈ dtX0_init_0, decode cX0_init q.1 = .ok q.2 := by decide +kernel
theorem dX0_init_0 : decode cX0_init 0 = .ok (.aload_n 0, 1) := dvX0_init_0 (0, .aload_n 0, 1) (List.mem_of_getElem? (i := 0) rfl)
theorem dX0_init_1 : decode cX0_init 1 = .ok (.invokespecial 3, 3) := dvX0_init_0 (1, .invokespecial 3, 3) (List.mem_of_getElem? (i := 1) rfl)
theorem dX0_init_4 : decode cX0_init 4 = .ok (.aload_n 0, 1) := dvX0_init_0 (4, .aload_n 0, 1) (List.mem_of_getElem? (i := 2) rfl)
theorem dX0_init_5 : decode cX0_init 5 = .ok (.sipush 512, 3) := dvX0_init_0 (5, .sipush 512, 3) (List.mem_of_getElem? (i := 3) rfl)
theorem dX0_init_8 : decode cX0_init 8 = .ok (.newarray .int, 2) := dvX0_init_0 (8, .newarray .int, 2) (List.mem_of_getElem? (i := 4) rfl)
theorem dX0_init_10 : decode cX0_init 10 = .ok (.putfield 9, 3) := dvX0_init_0 (10, .putfield 9, 3) (List.mem_of_getElem? (i := 5) rfl)
theorem dX0_init_13 : decode cX0_init 13 = .ok (.aload_n 0, 1) := dvX0_init_0 (13, .aload_n 0, 1) (List.mem_of_getElem? (i := 6) rfl)
theorem dX0_init_14 : decode cX0_init 14 = .ok (.sipush 512, 3) := dvX0_init_0 (14, .sipush 512, 3) (List.mem_of_getElem? (i := 7) rfl)
theorem dX0_init_17 : decode cX0_init 17 = .ok (.newarray .int, 2) := dvX0_init_0 (17, .newarray .int, 2) (List.mem_of_getElem? (i := 8) rfl)
theorem dX0_init_19 : decode cX0_init 19 = .ok (.putfield 15, 3) := dvX0_init_0 (19, .putfield 15, 3) (List.mem_of_getElem? (i := 9) rfl)
theorem dX0_init_22 : decode cX0_init 22 = .ok (.aload_n 0, 1) := dvX0_init_0 (22, .aload_n 0, 1) (List.mem_of_getElem? (i := 10) rfl)
theorem dX0_init_23 : decode cX0_init 23 = .ok (.sipush 512, 3) := dvX0_init_0 (23, .sipush 512, 3) (List.mem_of_getElem? (i := 11) rfl)
theorem dX0_init_26 : decode cX0_init 26 = .ok (.newarray .int, 2) := dvX0_init_0 (26, .newarray .int, 2) (List.mem_of_getElem? (i := 12) rfl)
theorem dX0_init_28 : decode cX0_init 28 = .ok (.putfield 18, 3) := dvX0_init_0 (28, .putfield 18, 3) (List.mem_of_getElem? (i := 13) rfl)
theorem dX0_init_31 : decode cX0_init 31 = .ok (.return_, 1) := dvX0_init_0 (31, .return_, 1) (List.mem_of_getElem? (i := 14) rfl)
def dtX0_notePlacing_0 : List (Nat × Instr × Nat) := [(0, .aload_n 0, 1), (1, .iconst (-1), 1), (2, .iload_n 1, 1), (3, .iload_n 2, 1), (4, .invokevirtual 21, 3), (7, .return_, 1)]
set_option maxRecDepth 20000 in
theorem dvX0_notePlacing_0 : ∀ q ∈ dtX0_notePlacing_0, decode cX0_notePlacing q.1 = .ok q.2 := by decide +kernel
theorem dX0_notePlacing_0 : decode cX0_notePlacing 0 = .ok (.aload_n 0, 1) := dvX0_notePlacing_0 (0, .aload_n 0, 1) (List.mem_of_getElem? (i := 0) rfl)
theorem dX0_notePlacing_1 : decode cX0_notePlacing 1 = .ok (.iconst (-1), 1) := dvX0_notePlacing_0 (1, .iconst (-1), 1) (List.mem_of_getElem? (i := 1) rfl)
theorem dX0_notePlacing_2 : decode cX0_notePlacing 2 = .ok (.iload_n 1, 1) := dvX0_notePlacing_0 (2, .iload_n 1, 1) (List.mem_of_getElem? (i := 2) rfl)
theorem dX0_notePlacing_3 : decode cX0_notePlacing 3 = .ok (.iload_n 2, 1) := dvX0_notePlacing_0 (3, .iload_n 2, 1) (List.mem_of_getElem? (i := 3) rfl)
theorem dX0_notePlacing_4 : decode cX0_notePlacing 4 = .ok (.invokevirtual 21, 3) := dvX0_notePlacing_0 (4, .invokevirtual 21, 3) (List.mem_of_getElem? (i := 4) rfl)
theorem dX0_notePlacing_7 : decode cX0_notePlacing 7 = .ok (.return_, 1) := dvX0_notePlacing_0 (7, .return_, 1) (List.mem_of_getElem? (i := 5) rfl)
def dtX0_noteMove_0 : List (Nat × Instr × Nat) := [(0, .aload_n 0, 1), (1, .getfield 25, 3), (4, .sipush 512, 3), (7, .if_icmp .ge 43, 3), (10, .aload_n 0, 1), (11, .getfield 9, 3), (14, .aload_n 0, 1), (15, .getfield 25, 3), (18, .iload_n 1, 1), (19, .iastore, 1), (20, .aload_n 0, 1), (21, .getfield 15, 3), (24, .aload_n 0, 1), (25, .getfield 25, 3), (28, .iload_n 2, 1), (29, .iastore, 1), (30, .aload_n 0, 1), (31, .getfield 18, 3), (34, .aload_n 0, 1), (35, .getfield 25, 3), (38, .iload_n 3, 1), (39, .iastore, 1), (40, .aload_n 0, 1), (41, .dup, 1), (42, .getfield 25, 3), (45, .iconst 1, 1), (46, .iadd, 1), (47, .putfield 25, 3), (50, .return_, 1)]
set_option maxRecDepth 20000 in
theorem dvX0_noteMove_0 : ∀ q ∈ dtX0_noteMove_0, decode cX0_noteMove q.1 = .ok q.2 := by decide +kernel
theorem dX0_noteMove_0 : decode cX0_noteMove 0 = .ok (.aload_n 0, 1) := dvX0_noteMove_0 (0, .aload_n 0, 1) (List.mem_of_getElem? (i := 0) rfl)
theorem dX0_noteMove_1 : decode cX0_noteMove 1 = .ok (.getfield 25, 3) := dvX0_noteMove_0 (1, .getfield 25, 3) (List.mem_of_getElem? (i := 1) rfl)
theorem dX0_noteMove_4 : decode cX0_noteMove 4 = .ok (.sipush 512, 3) := dvX0_noteMove_0 (4, .sipush 512, 3) (List.mem_of_getElem? (i := 2) rfl)
theorem dX0_noteMove_7 : decode cX0_noteMove 7 = .ok (.if_icmp .ge 43, 3) := dvX0_noteMove_0 (7, .if_icmp .ge 43, 3) (List.mem_of_getElem? (i := 3) rfl)
theorem dX0_noteMove_10 : decode cX0_noteMove 10 = .ok (.aload_n 0, 1) := dvX0_noteMove_0 (10, .aload_n 0, 1) (List.mem_of_getElem? (i := 4) rfl)
theorem dX0_noteMove_11 : decode cX0_noteMove 11 = .ok (.getfield 9, 3) := dvX0_noteMove_0 (11, .getfield 9, 3) (List.mem_of_getElem? (i := 5) rfl)
theorem dX0_noteMove_14 : decode cX0_noteMove 14 = .ok (.aload_n 0, 1) := dvX0_noteMove_0 (14, .aload_n 0, 1) (List.mem_of_getElem? (i := 6) rfl)
theorem dX0_noteMove_15 : decode cX0_noteMove 15 = .ok (.getfield 25, 3) := dvX0_noteMove_0 (15, .getfield 25, 3) (List.mem_of_getElem? (i := 7) rfl)
theorem dX0_noteMove_18 : decode cX0_noteMove 18 = .ok (.iload_n 1, 1) := dvX0_noteMove_0 (18, .iload_n 1, 1) (List.mem_of_getElem? (i := 8) rfl)
theorem dX0_noteMove_19 : decode cX0_noteMove 19 = .ok (.iastore, 1) := dvX0_noteMove_0 (19, .iastore, 1) (List.mem_of_getElem? (i := 9) rfl)
theorem dX0_noteMove_20 : decode cX0_noteMove 20 = .ok (.aload_n 0, 1) := dvX0_noteMove_0 (20, .aload_n 0, 1) (List.mem_of_getElem? (i := 10) rfl)
theorem dX0_noteMove_21 : decode cX0_noteMove 21 = .ok (.getfield 15, 3) := dvX0_noteMove_0 (21, .getfield 15, 3) (List.mem_of_getElem? (i := 11) rfl)
theorem dX0_noteMove_24 : decode cX0_noteMove 24 = .ok (.aload_n 0, 1) := dvX0_noteMove_0 (24, .aload_n 0, 1) (List.mem_of_getElem? (i := 12) rfl)
theorem dX0_noteMove_25 : decode cX0_noteMove 25 = .ok (.getfield 25, 3) := dvX0_noteMove_0 (25, .getfield 25, 3) (List.mem_of_getElem? (i := 13) rfl)
theorem dX0_noteMove_28 : decode cX0_noteMove 28 = .ok (.iload_n 2, 1) := dvX0_noteMove_0 (28, .iload_n 2, 1) (List.mem_of_getElem? (i := 14) rfl)
theorem dX0_noteMove_29 : decode cX0_noteMove 29 = .ok (.iastore, 1) := dvX0_noteMove_0 (29, .iastore, 1) (List.mem_of_getElem? (i := 15) rfl)
theorem dX0_noteMove_30 : decode cX0_noteMove 30 = .ok (.aload_n 0, 1) := dvX0_noteMove_0 (30, .aload_n 0, 1) (List.mem_of_getElem? (i := 16) rfl)
theorem dX0_noteMove_31 : decode cX0_noteMove 31 = .ok (.getfield 18, 3) := dvX0_noteMove_0 (31, .getfield 18, 3) (List.mem_of_getElem? (i := 17) rfl)
theorem dX0_noteMove_34 : decode cX0_noteMove 34 = .ok (.aload_n 0, 1) := dvX0_noteMove_0 (34, .aload_n 0, 1) (List.mem_of_getElem? (i := 18) rfl)
theorem dX0_noteMove_35 : decode cX0_noteMove 35 = .ok (.getfield 25, 3) := dvX0_noteMove_0 (35, .getfield 25, 3) (List.mem_of_getElem? (i := 19) rfl)
theorem dX0_noteMove_38 : decode cX0_noteMove 38 = .ok (.iload_n 3, 1) := dvX0_noteMove_0 (38, .iload_n 3, 1) (List.mem_of_getElem? (i := 20) rfl)
theorem dX0_noteMove_39 : decode cX0_noteMove 39 = .ok (.iastore, 1) := dvX0_noteMove_0 (39, .iastore, 1) (List.mem_of_getElem? (i := 21) rfl)
theorem dX0_noteMove_40 : decode cX0_noteMove 40 = .ok (.aload_n 0, 1) := dvX0_noteMove_0 (40, .aload_n 0, 1) (List.mem_of_getElem? (i := 22) rfl)
theorem dX0_noteMove_41 : decode cX0_noteMove 41 = .ok (.dup, 1) := dvX0_noteMove_0 (41, .dup, 1) (List.mem_of_getElem? (i := 23) rfl)
theorem dX0_noteMove_42 : decode cX0_noteMove 42 = .ok (.getfield 25, 3) := dvX0_noteMove_0 (42, .getfield 25, 3) (List.mem_of_getElem? (i := 24) rfl)
theorem dX0_noteMove_45 : decode cX0_noteMove 45 = .ok (.iconst 1, 1) := dvX0_noteMove_0 (45, .iconst 1, 1) (List.mem_of_getElem? (i := 25) rfl)
theorem dX0_noteMove_46 : decode cX0_noteMove 46 = .ok (.iadd, 1) := dvX0_noteMove_0 (46, .iadd, 1) (List.mem_of_getElem? (i := 26) rfl)
theorem dX0_noteMove_47 : decode cX0_noteMove 47 = .ok (.putfield 25, 3) := dvX0_noteMove_0 (47, .putfield 25, 3) (List.mem_of_getElem? (i := 27) rfl)
theorem dX0_noteMove_50 : decode cX0_noteMove 50 = .ok (.return_, 1) := dvX0_noteMove_0 (50, .return_, 1) (List.mem_of_getElem? (i := 28) rfl)
def dtX0_replay_0 : List (Nat × Instr × Nat) := [(0, .aload_n 1, 1), (1, .invokevirtual 29, 3), (4, .iconst 0, 1), (5, .istore_n 2, 1), (6, .iload_n 2, 1), (7, .aload_n 0, 1), (8, .getfield 25, 3), (11, .if_icmp .ge 60, 3), (14, .aload_n 0, 1), (15, .getfield 9, 3), (18, .iload_n 2, 1), (19, .iaload, 1), (20, .iconst (-1), 1), (21, .if_icmp .ne 22, 3), (24, .aload_n 1, 1), (25, .aload_n 0, 1), (26, .getfield 15, 3), (29, .iload_n 2, 1), (30, .iaload, 1), (31, .aload_n 0, 1), (32, .getfield 18, 3), (35, .iload_n 2, 1), (36, .iaload, 1), (37, .invokevirtual 34, 3), (40, .goto 25, 3), (43, .aload_n 1, 1), (44, .aload_n 0, 1), (45, .getfield 9, 3), (48, .iload_n 2, 1), (49, .iaload, 1), (50, .aload_n 0, 1), (51, .getfield 15, 3), (54, .iload_n 2, 1), (55, .iaload, 1), (56, .aload_n 0, 1), (57, .getfield 18, 3), (60, .iload_n 2, 1), (61, .iaload, 1), (62, .invokevirtual 38, 3), (65, .iinc 2 1, 3), (68, .goto (-62), 3), (71, .return_, 1)]
set_option maxRecDepth 20000 in
theorem dvX0_replay_0 : ∀ q ∈ dtX0_replay_0, decode cX0_replay q.1 = .ok q.2 := by decide +kernel
theorem dX0_replay_0 : decode cX0_replay 0 = .ok (.aload_n 1, 1) := dvX0_replay_0 (0, .aload_n 1, 1) (List.mem_of_getElem? (i := 0) rfl)
theorem dX0_replay_1 : decode cX0_replay 1 = .ok (.invokevirtual 29, 3) := dvX0_replay_0 (1, .invokevirtual 29, 3) (List.mem_of_getElem? (i := 1) rfl)
theorem dX0_replay_4 : decode cX0_replay 4 = .ok (.iconst 0, 1) := dvX0_replay_0 (4, .iconst 0, 1) (List.mem_of_getElem? (i := 2) rfl)
theorem dX0_replay_5 : decode cX0_replay 5 = .ok (.istore_n 2, 1) := dvX0_replay_0 (5, .istore_n 2, 1) (List.mem_of_getElem? (i := 3) rfl)
theorem dX0_replay_6 : decode cX0_replay 6 = .ok (.iload_n 2, 1) := dvX0_replay_0 (6, .iload_n 2, 1) (List.mem_of_getElem? (i := 4) rfl)
theorem dX0_replay_7 : decode cX0_replay 7 = .ok (.aload_n 0, 1) := dvX0_replay_0 (7, .aload_n 0, 1) (List.mem_of_getElem? (i := 5) rfl)
theorem dX0_replay_8 : decode cX0_replay 8 = .ok (.getfield 25, 3) := dvX0_replay_0 (8, .getfield 25, 3) (List.mem_of_getElem? (i := 6) rfl)
theorem dX0_replay_11 : decode cX0_replay 11 = .ok (.if_icmp .ge 60, 3) := dvX0_replay_0 (11, .if_icmp .ge 60, 3) (List.mem_of_getElem? (i := 7) rfl)
theorem dX0_replay_14 : decode cX0_replay 14 = .ok (.aload_n 0, 1) := dvX0_replay_0 (14, .aload_n 0, 1) (List.mem_of_getElem? (i := 8) rfl)
theorem dX0_replay_15 : decode cX0_replay 15 = .ok (.getfield 9, 3) := dvX0_replay_0 (15, .getfield 9, 3) (List.mem_of_getElem? (i := 9) rfl)
theorem dX0_replay_18 : decode cX0_replay 18 = .ok (.iload_n 2, 1) := dvX0_replay_0 (18, .iload_n 2, 1) (List.mem_of_getElem? (i := 10) rfl)
theorem dX0_replay_19 : decode cX0_replay 19 = .ok (.iaload, 1) := dvX0_replay_0 (19, .iaload, 1) (List.mem_of_getElem? (i := 11) rfl)
theorem dX0_replay_20 : decode cX0_replay 20 = .ok (.iconst (-1), 1) := dvX0_replay_0 (20, .iconst (-1), 1) (List.mem_of_getElem? (i := 12) rfl)
theorem dX0_replay_21 : decode cX0_replay 21 = .ok (.if_icmp .ne 22, 3) := dvX0_replay_0 (21, .if_icmp .ne 22, 3) (List.mem_of_getElem? (i := 13) rfl)
theorem dX0_replay_24 : decode cX0_replay 24 = .ok (.aload_n 1, 1) := dvX0_replay_0 (24, .aload_n 1, 1) (List.mem_of_getElem? (i := 14) rfl)
theorem dX0_replay_25 : decode cX0_replay 25 = .ok (.aload_n 0, 1) := dvX0_replay_0 (25, .aload_n 0, 1) (List.mem_of_getElem? (i := 15) rfl)
theorem dX0_replay_26 : decode cX0_replay 26 = .ok (.getfield 15, 3) := dvX0_replay_0 (26, .getfield 15, 3) (List.mem_of_getElem? (i := 16) rfl)
theorem dX0_replay_29 : decode cX0_replay 29 = .ok (.iload_n 2, 1) := dvX0_replay_0 (29, .iload_n 2, 1) (List.mem_of_getElem? (i := 17) rfl)
theorem dX0_replay_30 : decode cX0_replay 30 = .ok (.iaload, 1) := dvX0_replay_0 (30, .iaload, 1) (List.mem_of_getElem? (i := 18) rfl)
theorem dX0_replay_31 : decode cX0_replay 31 = .ok (.aload_n 0, 1) := dvX0_replay_0 (31, .aload_n 0, 1) (List.mem_of_getElem? (i := 19) rfl)
theorem dX0_replay_32 : decode cX0_replay 32 = .ok (.getfield 18, 3) := dvX0_replay_0 (32, .getfield 18, 3) (List.mem_of_getElem? (i := 20) rfl)
theorem dX0_replay_35 : decode cX0_replay 35 = .ok (.iload_n 2, 1) := dvX0_replay_0 (35, .iload_n 2, 1) (List.mem_of_getElem? (i := 21) rfl)
theorem dX0_replay_36 : decode cX0_replay 36 = .ok (.iaload, 1) := dvX0_replay_0 (36, .iaload, 1) (List.mem_of_getElem? (i := 22) rfl)
theorem dX0_replay_37 : decode cX0_replay 37 = .ok (.invokevirtual 34, 3) := dvX0_replay_0 (37, .invokevirtual 34, 3) (List.mem_of_getElem? (i := 23) rfl)
theorem dX0_replay_40 : decode cX0_replay 40 = .ok (.goto 25, 3) := dvX0_replay_0 (40, .goto 25, 3) (List.mem_of_getElem? (i := 24) rfl)
theorem dX0_replay_43 : decode cX0_replay 43 = .ok (.aload_n 1, 1) := dvX0_replay_0 (43, .aload_n 1, 1) (List.mem_of_getElem? (i := 25) rfl)
theorem dX0_replay_44 : decode cX0_replay 44 = .ok (.aload_n 0, 1) := dvX0_replay_0 (44, .aload_n 0, 1) (List.mem_of_getElem? (i := 26) rfl)
theorem dX0_replay_45 : decode cX0_replay 45 = .ok (.getfield 9, 3) := dvX0_replay_0 (45, .getfield 9, 3) (List.mem_of_getElem? (i := 27) rfl)
theorem dX0_replay_48 : decode cX0_replay 48 = .ok (.iload_n 2, 1) := dvX0_replay_0 (48, .iload_n 2, 1) (List.mem_of_getElem? (i := 28) rfl)
theorem dX0_replay_49 : decode cX0_replay 49 = .ok (.iaload, 1) := dvX0_replay_0 (49, .iaload, 1) (List.mem_of_getElem? (i := 29) rfl)
theorem dX0_replay_50 : decode cX0_replay 50 = .ok (.aload_n 0, 1) := dvX0_replay_0 (50, .aload_n 0, 1) (List.mem_of_getElem? (i := 30) rfl)
theorem dX0_replay_51 : decode cX0_replay 51 = .ok (.getfield 15, 3) := dvX0_replay_0 (51, .getfield 15, 3) (List.mem_of_getElem? (i := 31) rfl)
theorem dX0_replay_54 : decode cX0_replay 54 = .ok (.iload_n 2, 1) := dvX0_replay_0 (54, .iload_n 2, 1) (List.mem_of_getElem? (i := 32) rfl)
theorem dX0_replay_55 : decode cX0_replay 55 = .ok (.iaload, 1) := dvX0_replay_0 (55, .iaload, 1) (List.mem_of_getElem? (i := 33) rfl)
theorem dX0_replay_56 : decode cX0_replay 56 = .ok (.aload_n 0, 1) := dvX0_replay_0 (56, .aload_n 0, 1) (List.mem_of_getElem? (i := 34) rfl)
theorem dX0_replay_57 : decode cX0_replay 57 = .ok (.getfield 18, 3) := dvX0_replay_0 (57, .getfield 18, 3) (List.mem_of_getElem? (i := 35) rfl)
theorem dX0_replay_60 : decode cX0_replay 60 = .ok (.iload_n 2, 1) := dvX0_replay_0 (60, .iload_n 2, 1) (List.mem_of_getElem? (i := 36) rfl)
theorem dX0_replay_61 : decode cX0_replay 61 = .ok (.iaload, 1) := dvX0_replay_0 (61, .iaload, 1) (List.mem_of_getElem? (i := 37) rfl)
theorem dX0_replay_62 : decode cX0_replay 62 = .ok (.invokevirtual 38, 3) := dvX0_replay_0 (62, .invokevirtual 38, 3) (List.mem_of_getElem? (i := 38) rfl)
theorem dX0_replay_65 : decode cX0_replay 65 = .ok (.iinc 2 1, 3) := dvX0_replay_0 (65, .iinc 2 1, 3) (List.mem_of_getElem? (i := 39) rfl)
theorem dX0_replay_68 : decode cX0_replay 68 = .ok (.goto (-62), 3) := dvX0_replay_0 (68, .goto (-62), 3) (List.mem_of_getElem? (i := 40) rfl)
theorem dX0_replay_71 : decode cX0_replay 71 = .ok (.return_, 1) := dvX0_replay_0 (71, .return_, 1) (List.mem_of_getElem? (i := 41) rfl)
def dtX1_init_0 : List (Nat × Instr × Nat) := [(0, .aload_n 0, 1), (1, .invokespecial 3, 3), (4, .aload_n 0, 1), (5, .bipush 40, 2), (7, .newarray .int, 2), (9, .putfield 9, 3), (12, .aload_n 0, 1), (13, .bipush 40, 2), (15, .newarray .int, 2), (17, .putfield 15, 3), (20, .aload_n 0, 1), (21, .bipush 40, 2), (23, .newarray .int, 2), (25, .putfield 18, 3), (28, .aload_n 0, 1), (29, .bipush 40, 2), (31, .newarray .int, 2), (33, .putfield 21, 3), (36, .aload_n 0, 1), (37, .bipush 40, 2), (39, .newarray .int, 2), (41, .putfield 24, 3), (44, .aload_n 0, 1), (45, .bipush 40, 2), (47, .newarray .int, 2), (49, .putfield 27, 3), (52, .aload_n 0, 1), (53, .sipush 1200, 3), (56, .newarray .int, 2), (58, .putfield 30, 3), (61, .aload_n 0, 1), (62, .bipush 30, 2), (64, .newarray .int, 2), (66, .putfield 33, 3), (69, .aload_n 0, 1), (70, .getfield 33, 3), (73, .iconst (-1), 1), (74, .invokestatic 36, 3), (77, .return_, 1)]
set_option maxRecDepth 20000 in
theorem dvX1_init_0 : ∀ q ∈ dtX1_init_0, decode cX1_init q.1 = .ok q.2 := by decide +kernel
theorem dX1_init_0 : decode cX1_init 0 = .ok (.aload_n 0, 1) := dvX1_init_0 (0, .aload_n 0, 1) (List.mem_of_getElem? (i := 0) rfl)
theorem dX1_init_1 : decode cX1_init 1 = .ok (.invokespecial 3, 3) := dvX1_init_0 (1, .invokespecial 3, 3) (List.mem_of_getElem? (i := 1) rfl)
theorem dX1_init_4 : decode cX1_init 4 = .ok (.aload_n 0, 1) := dvX1_init_0 (4, .aload_n 0, 1) (List.mem_of_getElem? (i := 2) rfl)
theorem dX1_init_5 : decode cX1_init 5 = .ok (.bipush 40, 2) := dvX1_init_0 (5, .bipush 40, 2) (List.mem_of_getElem? (i := 3) rfl)
theorem dX1_init_7 : decode cX1_init 7 = .ok (.newarray .int, 2) := dvX1_init_0 (7, .newarray .int, 2) (List.mem_of_getElem? (i := 4) rfl)
theorem dX1_init_9 : decode cX1_init 9 = .ok (.putfield 9, 3) := dvX1_init_0 (9, .putfield 9, 3) (List.mem_of_getElem? (i := 5) rfl)
theorem dX1_init_12 : decode cX1_init 12 = .ok (.aload_n 0, 1) := dvX1_init_0 (12, .aload_n 0, 1) (List.mem_of_getElem? (i := 6) rfl)
theorem dX1_init_13 : decode cX1_init 13 = .ok (.bipush 40, 2) := dvX1_init_0 (13, .bipush 40, 2) (List.mem_of_getElem? (i := 7) rfl)
theorem dX1_init_15 : decode cX1_init 15 = .ok (.newarray .int, 2) := dvX1_init_0 (15, .newarray .int, 2) (List.mem_of_getElem? (i := 8) rfl)
theorem dX1_init_17 : decode cX1_init 17 = .ok (.putfield 15, 3) := dvX1_init_0 (17, .putfield 15, 3) (List.mem_of_getElem? (i := 9) rfl)
theorem dX1_init_20 : decode cX1_init 20 = .ok (.aload_n 0, 1) := dvX1_init_0 (20, .aload_n 0, 1) (List.mem_of_getElem? (i := 10) rfl)
theorem dX1_init_21 : decode cX1_init 21 = .ok (.bipush 40, 2) := dvX1_init_0 (21, .bipush 40, 2) (List.mem_of_getElem? (i := 11) rfl)
theorem dX1_init_23 : decode cX1_init 23 = .ok (.newarray .int, 2) := dvX1_init_0 (23, .newarray .int, 2) (List.mem_of_getElem? (i := 12) rfl)
theorem dX1_init_25 : decode cX1_init 25 = .ok (.putfield 18, 3) := dvX1_init_0 (25, .putfield 18, 3) (List.mem_of_getElem? (i := 13) rfl)
theorem dX1_init_28 : decode cX1_init 28 = .ok (.aload_n 0, 1) := dvX1_init_0 (28, .aload_n 0, 1) (List.mem_of_getElem? (i := 14) rfl)
theorem dX1_init_29 : decode cX1_init 29 = .ok (.bipush 40, 2) := dvX1_init_0 (29, .bipush 40, 2) (List.mem_of_getElem? (i := 15) rfl)
theorem dX1_init_31 : decode cX1_init 31 = .ok (.newarray .int, 2) := dvX1_init_0 (31, .newarray .int, 2) (List.mem_of_getElem? (i := 16) rfl)
theorem dX1_init_33 : decode cX1_init 33 = .ok (.putfield 21, 3) := dvX1_init_0 (33, .putfield 21, 3) (List.mem_of_getElem? (i := 17) rfl)
theorem dX1_init_36 : decode cX1_init 36 = .ok (.aload_n 0, 1) := dvX1_init_0 (36, .aload_n 0, 1) (List.mem_of_getElem? (i := 18) rfl)
theorem dX1_init_37 : decode cX1_init 37 = .ok (.bipush 40, 2) := dvX1_init_0 (37, .bipush 40, 2) (List.mem_of_getElem? (i := 19) rfl)
theorem dX1_init_39 : decode cX1_init 39 = .ok (.newarray .int, 2) := dvX1_init_0 (39, .newarray .int, 2) (List.mem_of_getElem? (i := 20) rfl)
theorem dX1_init_41 : decode cX1_init 41 = .ok (.putfield 24, 3) := dvX1_init_0 (41, .putfield 24, 3) (List.mem_of_getElem? (i := 21) rfl)
theorem dX1_init_44 : decode cX1_init 44 = .ok (.aload_n 0, 1) := dvX1_init_0 (44, .aload_n 0, 1) (List.mem_of_getElem? (i := 22) rfl)
theorem dX1_init_45 : decode cX1_init 45 = .ok (.bipush 40, 2) := dvX1_init_0 (45, .bipush 40, 2) (List.mem_of_getElem? (i := 23) rfl)
theorem dX1_init_47 : decode cX1_init 47 = .ok (.newarray .int, 2) := dvX1_init_0 (47, .newarray .int, 2) (List.mem_of_getElem? (i := 24) rfl)
theorem dX1_init_49 : decode cX1_init 49 = .ok (.putfield 27, 3) := dvX1_init_0 (49, .putfield 27, 3) (List.mem_of_getElem? (i := 25) rfl)
theorem dX1_init_52 : decode cX1_init 52 = .ok (.aload_n 0, 1) := dvX1_init_0 (52, .aload_n 0, 1) (List.mem_of_getElem? (i := 26) rfl)
theorem dX1_init_53 : decode cX1_init 53 = .ok (.sipush 1200, 3) := dvX1_init_0 (53, .sipush 1200, 3) (List.mem_of_getElem? (i := 27) rfl)
theorem dX1_init_56 : decode cX1_init 56 = .ok (.newarray .int, 2) := dvX1_init_0 (56, .newarray .int, 2) (List.mem_of_getElem? (i := 28) rfl)
theorem dX1_init_58 : decode cX1_init 58 = .ok (.putfield 30, 3) := dvX1_init_0 (58, .putfield 30, 3) (List.mem_of_getElem? (i := 29) rfl)
theorem dX1_init_61 : decode cX1_init 61 = .ok (.aload_n 0, 1) := dvX1_init_0 (61, .aload_n 0, 1) (List.mem_of_getElem? (i := 30) rfl)
theorem dX1_init_62 : decode cX1_init 62 = .ok (.bipush 30, 2) := dvX1_init_0 (62, .bipush 30, 2) (List.mem_of_getElem? (i := 31) rfl)
theorem dX1_init_64 : decode cX1_init 64 = .ok (.newarray .int, 2) := dvX1_init_0 (64, .newarray .int, 2) (List.mem_of_getElem? (i := 32) rfl)
theorem dX1_init_66 : decode cX1_init 66 = .ok (.putfield 33, 3) := dvX1_init_0 (66, .putfield 33, 3) (List.mem_of_getElem? (i := 33) rfl)
theorem dX1_init_69 : decode cX1_init 69 = .ok (.aload_n 0, 1) := dvX1_init_0 (69, .aload_n 0, 1) (List.mem_of_getElem? (i := 34) rfl)
theorem dX1_init_70 : decode cX1_init 70 = .ok (.getfield 33, 3) := dvX1_init_0 (70, .getfield 33, 3) (List.mem_of_getElem? (i := 35) rfl)
theorem dX1_init_73 : decode cX1_init 73 = .ok (.iconst (-1), 1) := dvX1_init_0 (73, .iconst (-1), 1) (List.mem_of_getElem? (i := 36) rfl)
theorem dX1_init_74 : decode cX1_init 74 = .ok (.invokestatic 36, 3) := dvX1_init_0 (74, .invokestatic 36, 3) (List.mem_of_getElem? (i := 37) rfl)
theorem dX1_init_77 : decode cX1_init 77 = .ok (.return_, 1) := dvX1_init_0 (77, .return_, 1) (List.mem_of_getElem? (i := 38) rfl)
def dtX1_opened_0 : List (Nat × Instr × Nat) := [(0, .aload_n 0, 1), (1, .getfield 42, 3), (4, .ireturn, 1)]
set_option maxRecDepth 20000 in
theorem dvX1_opened_0 : ∀ q ∈ dtX1_opened_0, decode cX1_opened q.1 = .ok q.2 := by decide +kernel
theorem dX1_opened_0 : decode cX1_opened 0 = .ok (.aload_n 0, 1) := dvX1_opened_0 (0, .aload_n 0, 1) (List.mem_of_getElem? (i := 0) rfl)
theorem dX1_opened_1 : decode cX1_opened 1 = .ok (.getfield 42, 3) := dvX1_opened_0 (1, .getfield 42, 3) (List.mem_of_getElem? (i := 1) rfl)
theorem dX1_opened_4 : decode cX1_opened 4 = .ok (.ireturn, 1) := dvX1_opened_0 (4, .ireturn, 1) (List.mem_of_getElem? (i := 2) rfl)
def dtX1_isFull_0 : List (Nat × Instr × Nat) := [(0, .aload_n 0, 1), (1, .getfield 42, 3), (4, .bipush 40, 2), (6, .if_icmp .lt 7, 3), (9, .iconst 1, 1), (10, .goto 4, 3), (13, .iconst 0, 1), (14, .ireturn, 1)]
set_option maxRecDepth 20000 in
theorem dvX1_isFull_0 : ∀ q ∈ dtX1_isFull_0, decode cX1_isFull q.1 = .ok q.2 := by decide +kernel
theorem dX1_isFull_0 : decode cX1_isFull 0 = .ok (.aload_n 0, 1) := dvX1_isFull_0 (0, .aload_n 0, 1) (List.mem_of_getElem? (i := 0) rfl)
theorem dX1_isFull_1 : decode cX1_isFull 1 = .ok (.getfield 42, 3) := dvX1_isFull_0 (1, .getfield 42, 3) (List.mem_of_getElem? (i := 1) rfl)
theorem dX1_isFull_4 : decode cX1_isFull 4 = .ok (.bipush 40, 2) := dvX1_isFull_0 (4, .bipush 40, 2) (List.mem_of_getElem? (i := 2) rfl)
theorem dX1_isFull_6 : decode cX1_isFull 6 = .ok (.if_icmp .lt 7, 3) := dvX1_isFull_0 (6, .if_icmp .lt 7, 3) (List.mem_of_getElem? (i := 3) rfl)
theorem dX1_isFull_9 : decode cX1_isFull 9 = .ok (.iconst 1, 1) := dvX1_isFull_0 (9, .iconst 1, 1) (List.mem_of_getElem? (i := 4) rfl)
theorem dX1_isFull_10 : decode cX1_isFull 10 = .ok (.goto 4, 3) := dvX1_isFull_0 (10, .goto 4, 3) (List.mem_of_getElem? (i := 5) rfl)
theorem dX1_isFull_13 : decode cX1_isFull 13 = .ok (.iconst 0, 1) := dvX1_isFull_0 (13, .iconst 0, 1) (List.mem_of_getElem? (i := 6) rfl)
theorem dX1_isFull_14 : decode cX1_isFull 14 = .ok (.ireturn, 1) := dvX1_isFull_0 (14, .ireturn, 1) (List.mem_of_getElem? (i := 7) rfl)
def dtX1_customer_0 : List (Nat × Instr × Nat) := [(0, .aload_n 0, 1), (1, .getfield 9, 3), (4, .iload_n 1, 1), (5, .iaload, 1), (6, .ireturn, 1)]
set_option maxRecDepth 20000 in
theorem dvX1_customer_0 : ∀ q ∈ dtX1_customer_0, decode cX1_customer q.1 = .ok q.2 := by decide +kernel
theorem dX1_customer_0 : decode cX1_customer 0 = .ok (.aload_n 0, 1) := dvX1_customer_0 (0, .aload_n 0, 1) (List.mem_of_getElem? (i := 0) rfl)
theorem dX1_customer_1 : decode cX1_customer 1 = .ok (.getfield 9, 3) := dvX1_customer_0 (1, .getfield 9, 3) (List.mem_of_getElem? (i := 1) rfl)
theorem dX1_customer_4 : decode cX1_customer 4 = .ok (.iload_n 1, 1) := dvX1_customer_0 (4, .iload_n 1, 1) (List.mem_of_getElem? (i := 2) rfl)
theorem dX1_customer_5 : decode cX1_customer 5 = .ok (.iaload, 1) := dvX1_customer_0 (5, .iaload, 1) (List.mem_of_getElem? (i := 3) rfl)
theorem dX1_customer_6 : decode cX1_customer 6 = .ok (.ireturn, 1) := dvX1_customer_0 (6, .ireturn, 1) (List.mem_of_getElem? (i := 4) rfl)
def dtX1_yard_0 : List (Nat × Instr × Nat) := [(0, .aload_n 0, 1), (1, .getfield 15, 3), (4, .iload_n 1, 1), (5, .iaload, 1), (6, .ireturn, 1)]
set_option maxRecDepth 20000 in
theorem dvX1_yard_0 : ∀ q ∈ dtX1_yard_0, decode cX1_yard q.1 = .ok q.2 := by decide +kernel
theorem dX1_yard_0 : decode cX1_yard 0 = .ok (.aload_n 0, 1) := dvX1_yard_0 (0, .aload_n 0, 1) (List.mem_of_getElem? (i := 0) rfl)
theorem dX1_yard_1 : decode cX1_yard 1 = .ok (.getfield 15, 3) := dvX1_yard_0 (1, .getfield 15, 3) (List.mem_of_getElem? (i := 1) rfl)
theorem dX1_yard_4 : decode cX1_yard 4 = .ok (.iload_n 1, 1) := dvX1_yard_0 (4, .iload_n 1, 1) (List.mem_of_getElem? (i := 2) rfl)
theorem dX1_yard_5 : decode cX1_yard 5 = .ok (.iaload, 1) := dvX1_yard_0 (5, .iaload, 1) (List.mem_of_getElem? (i := 3) rfl)
theorem dX1_yard_6 : decode cX1_yard 6 = .ok (.ireturn, 1) := dvX1_yard_0 (6, .ireturn, 1) (List.mem_of_getElem? (i := 4) rfl)
def dtX1_grain_0 : List (Nat × Instr × Nat) := [(0, .aload_n 0, 1), (1, .getfield 18, 3), (4, .iload_n 1, 1), (5, .iaload, 1), (6, .ireturn, 1)]
set_option maxRecDepth 20000 in
theorem dvX1_grain_0 : ∀ q ∈ dtX1_grain_0, decode cX1_grain q.1 = .ok q.2 := by decide +kernel
theorem dX1_grain_0 : decode cX1_grain 0 = .ok (.aload_n 0, 1) := dvX1_grain_0 (0, .aload_n 0, 1) (List.mem_of_getElem? (i := 0) rfl)
theorem dX1_grain_1 : decode cX1_grain 1 = .ok (.getfield 18, 3) := dvX1_grain_0 (1, .getfield 18, 3) (List.mem_of_getElem? (i := 1) rfl)
theorem dX1_grain_4 : decode cX1_grain 4 = .ok (.iload_n 1, 1) := dvX1_grain_0 (4, .iload_n 1, 1) (List.mem_of_getElem? (i := 2) rfl)
theorem dX1_grain_5 : decode cX1_grain 5 = .ok (.iaload, 1) := dvX1_grain_0 (5, .iaload, 1) (List.mem_of_getElem? (i := 3) rfl)
theorem dX1_grain_6 : decode cX1_grain 6 = .ok (.ireturn, 1) := dvX1_grain_0 (6, .ireturn, 1) (List.mem_of_getElem? (i := 4) rfl)
def dtX1_standing_0 : List (Nat × Instr × Nat) := [(0, .aload_n 0, 1), (1, .getfield 21, 3), (4, .iload_n 1, 1), (5, .iaload, 1), (6, .ireturn, 1)]
set_option maxRecDepth 20000 in
theorem dvX1_standing_0 : ∀ q ∈ dtX1_standing_0, decode cX1_standing q.1 = .ok q.2 := by decide +kernel
theorem dX1_standing_0 : decode cX1_standing 0 = .ok (.aload_n 0, 1) := dvX1_standing_0 (0, .aload_n 0, 1) (List.mem_of_getElem? (i := 0) rfl)
theorem dX1_standing_1 : decode cX1_standing 1 = .ok (.getfield 21, 3) := dvX1_standing_0 (1, .getfield 21, 3) (List.mem_of_getElem? (i := 1) rfl)
theorem dX1_standing_4 : decode cX1_standing 4 = .ok (.iload_n 1, 1) := dvX1_standing_0 (4, .iload_n 1, 1) (List.mem_of_getElem? (i := 2) rfl)
theorem dX1_standing_5 : decode cX1_standing 5 = .ok (.iaload, 1) := dvX1_standing_0 (5, .iaload, 1) (List.mem_of_getElem? (i := 3) rfl)
theorem dX1_standing_6 : decode cX1_standing 6 = .ok (.ireturn, 1) := dvX1_standing_0 (6, .ireturn, 1) (List.mem_of_getElem? (i := 4) rfl)
def dtX1_lapseTick_0 : List (Nat × Instr × Nat) := [(0, .aload_n 0, 1), (1, .getfield 24, 3), (4, .iload_n 1, 1), (5, .iaload, 1), (6, .ireturn, 1)]
set_option maxRecDepth 20000 in
theorem dvX1_lapseTick_0 : ∀ q ∈ dtX1_lapseTick_0, decode cX1_lapseTick q.1 = .ok q.2 := by decide +kernel
theorem dX1_lapseTick_0 : decode cX1_lapseTick 0 = .ok (.aload_n 0, 1) := dvX1_lapseTick_0 (0, .aload_n 0, 1) (List.mem_of_getElem? (i := 0) rfl)
theorem dX1_lapseTick_1 : decode cX1_lapseTick 1 = .ok (.getfield 24, 3) := dvX1_lapseTick_0 (1, .getfield 24, 3) (List.mem_of_getElem? (i := 1) rfl)
theorem dX1_lapseTick_4 : decode cX1_lapseTick 4 = .ok (.iload_n 1, 1) := dvX1_lapseTick_0 (4, .iload_n 1, 1) (List.mem_of_getElem? (i := 2) rfl)
theorem dX1_lapseTick_5 : decode cX1_lapseTick 5 = .ok (.iaload, 1) := dvX1_lapseTick_0 (5, .iaload, 1) (List.mem_of_getElem? (i := 3) rfl)
theorem dX1_lapseTick_6 : decode cX1_lapseTick 6 = .ok (.ireturn, 1) := dvX1_lapseTick_0 (6, .ireturn, 1) (List.mem_of_getElem? (i := 4) rfl)
def dtX1_size_0 : List (Nat × Instr × Nat) := [(0, .aload_n 0, 1), (1, .getfield 27, 3), (4, .iload_n 1, 1), (5, .iaload, 1), (6, .ireturn, 1)]
set_option maxRecDepth 20000 in
theorem dvX1_size_0 : ∀ q ∈ dtX1_size_0, decode cX1_size q.1 = .ok q.2 := by decide +kernel
theorem dX1_size_0 : decode cX1_size 0 = .ok (.aload_n 0, 1) := dvX1_size_0 (0, .aload_n 0, 1) (List.mem_of_getElem? (i := 0) rfl)
theorem dX1_size_1 : decode cX1_size 1 = .ok (.getfield 27, 3) := dvX1_size_0 (1, .getfield 27, 3) (List.mem_of_getElem? (i := 1) rfl)
theorem dX1_size_4 : decode cX1_size 4 = .ok (.iload_n 1, 1) := dvX1_size_0 (4, .iload_n 1, 1) (List.mem_of_getElem? (i := 2) rfl)
theorem dX1_size_5 : decode cX1_size 5 = .ok (.iaload, 1) := dvX1_size_0 (5, .iaload, 1) (List.mem_of_getElem? (i := 3) rfl)
theorem dX1_size_6 : decode cX1_size 6 = .ok (.ireturn, 1) := dvX1_size_0 (6, .ireturn, 1) (List.mem_of_getElem? (i := 4) rfl)
def dtX1_get_0 : List (Nat × Instr × Nat) := [(0, .aload_n 0, 1), (1, .getfield 30, 3), (4, .iload_n 1, 1), (5, .bipush 30, 2), (7, .imul, 1), (8, .iload_n 2, 1), (9, .iadd, 1), (10, .iaload, 1), (11, .ireturn, 1)]
set_option maxRecDepth 20000 in
theorem dvX1_get_0 : ∀ q ∈ dtX1_get_0, decode cX1_get q.1 = .ok q.2 := by decide +kernel
theorem dX1_get_0 : decode cX1_get 0 = .ok (.aload_n 0, 1) := dvX1_get_0 (0, .aload_n 0, 1) (List.mem_of_getElem? (i := 0) rfl)
theorem dX1_get_1 : decode cX1_get 1 = .ok (.getfield 30, 3) := dvX1_get_0 (1, .getfield 30, 3) (List.mem_of_getElem? (i := 1) rfl)
theorem dX1_get_4 : decode cX1_get 4 = .ok (.iload_n 1, 1) := dvX1_get_0 (4, .iload_n 1, 1) (List.mem_of_getElem? (i := 2) rfl)
theorem dX1_get_5 : decode cX1_get 5 = .ok (.bipush 30, 2) := dvX1_get_0 (5, .bipush 30, 2) (List.mem_of_getElem? (i := 3) rfl)
theorem dX1_get_7 : decode cX1_get 7 = .ok (.imul, 1) := dvX1_get_0 (7, .imul, 1) (List.mem_of_getElem? (i := 4) rfl)
theorem dX1_get_8 : decode cX1_get 8 = .ok (.iload_n 2, 1) := dvX1_get_0 (8, .iload_n 2, 1) (List.mem_of_getElem? (i := 5) rfl)
theorem dX1_get_9 : decode cX1_get 9 = .ok (.iadd, 1) := dvX1_get_0 (9, .iadd, 1) (List.mem_of_getElem? (i := 6) rfl)
theorem dX1_get_10 : decode cX1_get 10 = .ok (.iaload, 1) := dvX1_get_0 (10, .iaload, 1) (List.mem_of_getElem? (i := 7) rfl)
theorem dX1_get_11 : decode cX1_get 11 = .ok (.ireturn, 1) := dvX1_get_0 (11, .ireturn, 1) (List.mem_of_getElem? (i := 8) rfl)
def dtX1_bookingFor_0 : List (Nat × Instr × Nat) := [(0, .aload_n 0, 1), (1, .getfield 33, 3), (4, .iload_n 1, 1), (5, .iaload, 1), (6, .ireturn, 1)]
set_option maxRecDepth 20000 in
theorem dvX1_bookingFor_0 : ∀ q ∈ dtX1_bookingFor_0, decode cX1_bookingFor q.1 = .ok q.2 := by decide +kernel
theorem dX1_bookingFor_0 : decode cX1_bookingFor 0 = .ok (.aload_n 0, 1) := dvX1_bookingFor_0 (0, .aload_n 0, 1) (List.mem_of_getElem? (i := 0) rfl)
theorem dX1_bookingFor_1 : decode cX1_bookingFor 1 = .ok (.getfield 33, 3) := dvX1_bookingFor_0 (1, .getfield 33, 3) (List.mem_of_getElem? (i := 1) rfl)
theorem dX1_bookingFor_4 : decode cX1_bookingFor 4 = .ok (.iload_n 1, 1) := dvX1_bookingFor_0 (4, .iload_n 1, 1) (List.mem_of_getElem? (i := 2) rfl)
theorem dX1_bookingFor_5 : decode cX1_bookingFor 5 = .ok (.iaload, 1) := dvX1_bookingFor_0 (5, .iaload, 1) (List.mem_of_getElem? (i := 3) rfl)
theorem dX1_bookingFor_6 : decode cX1_bookingFor 6 = .ok (.ireturn, 1) := dvX1_bookingFor_0 (6, .ireturn, 1) (List.mem_of_getElem? (i := 4) rfl)
def dtX1_open_0 : List (Nat × Instr × Nat) := [(0, .aload_n 0, 1), (1, .getfield 42, 3), (4, .istore 4, 2), (6, .aload_n 0, 1), (7, .dup, 1), (8, .getfield 42, 3), (11, .iconst 1, 1), (12, .iadd, 1), (13, .putfield 42, 3), (16, .aload_n 0, 1), (17, .getfield 9, 3), (20, .iload 4, 2), (22, .iload_n 1, 1), (23, .iastore, 1), (24, .aload_n 0, 1), (25, .getfield 15, 3), (28, .iload 4, 2), (30, .iload_n 2, 1), (31, .iastore, 1), (32, .aload_n 0, 1), (33, .getfield 18, 3), (36, .iload 4, 2), (38, .iload_n 3, 1), (39, .iastore, 1), (40, .aload_n 0, 1), (41, .getfield 21, 3), (44, .iload 4, 2), (46, .iconst 0, 1), (47, .iastore, 1), (48, .iload 4, 2), (50, .ireturn, 1)]
set_option maxRecDepth 20000 in
theorem dvX1_open_0 : ∀ q ∈ dtX1_open_0, decode cX1_open q.1 = .ok q.2 := by decide +kernel
theorem dX1_open_0 : decode cX1_open 0 = .ok (.aload_n 0, 1) := dvX1_open_0 (0, .aload_n 0, 1) (List.mem_of_getElem? (i := 0) rfl)
theorem dX1_open_1 : decode cX1_open 1 = .ok (.getfield 42, 3) := dvX1_open_0 (1, .getfield 42, 3) (List.mem_of_getElem? (i := 1) rfl)
theorem dX1_open_4 : decode cX1_open 4 = .ok (.istore 4, 2) := dvX1_open_0 (4, .istore 4, 2) (List.mem_of_getElem? (i := 2) rfl)
theorem dX1_open_6 : decode cX1_open 6 = .ok (.aload_n 0, 1) := dvX1_open_0 (6, .aload_n 0, 1) (List.mem_of_getElem? (i := 3) rfl)
theorem dX1_open_7 : decode cX1_open 7 = .ok (.dup, 1) := dvX1_open_0 (7, .dup, 1) (List.mem_of_getElem? (i := 4) rfl)
theorem dX1_open_8 : decode cX1_open 8 = .ok (.getfield 42, 3) := dvX1_open_0 (8, .getfield 42, 3) (List.mem_of_getElem? (i := 5) rfl)
theorem dX1_open_11 : decode cX1_open 11 = .ok (.iconst 1, 1) := dvX1_open_0 (11, .iconst 1, 1) (List.mem_of_getElem? (i := 6) rfl)
theorem dX1_open_12 : decode cX1_open 12 = .ok (.iadd, 1) := dvX1_open_0 (12, .iadd, 1) (List.mem_of_getElem? (i := 7) rfl)
theorem dX1_open_13 : decode cX1_open 13 = .ok (.putfield 42, 3) := dvX1_open_0 (13, .putfield 42, 3) (List.mem_of_getElem? (i := 8) rfl)
theorem dX1_open_16 : decode cX1_open 16 = .ok (.aload_n 0, 1) := dvX1_open_0 (16, .aload_n 0, 1) (List.mem_of_getElem? (i := 9) rfl)
theorem dX1_open_17 : decode cX1_open 17 = .ok (.getfield 9, 3) := dvX1_open_0 (17, .getfield 9, 3) (List.mem_of_getElem? (i := 10) rfl)
theorem dX1_open_20 : decode cX1_open 20 = .ok (.iload 4, 2) := dvX1_open_0 (20, .iload 4, 2) (List.mem_of_getElem? (i := 11) rfl)
theorem dX1_open_22 : decode cX1_open 22 = .ok (.iload_n 1, 1) := dvX1_open_0 (22, .iload_n 1, 1) (List.mem_of_getElem? (i := 12) rfl)
theorem dX1_open_23 : decode cX1_open 23 = .ok (.iastore, 1) := dvX1_open_0 (23, .iastore, 1) (List.mem_of_getElem? (i := 13) rfl)
theorem dX1_open_24 : decode cX1_open 24 = .ok (.aload_n 0, 1) := dvX1_open_0 (24, .aload_n 0, 1) (List.mem_of_getElem? (i := 14) rfl)
theorem dX1_open_25 : decode cX1_open 25 = .ok (.getfield 15, 3) := dvX1_open_0 (25, .getfield 15, 3) (List.mem_of_getElem? (i := 15) rfl)
theorem dX1_open_28 : decode cX1_open 28 = .ok (.iload 4, 2) := dvX1_open_0 (28, .iload 4, 2) (List.mem_of_getElem? (i := 16) rfl)
theorem dX1_open_30 : decode cX1_open 30 = .ok (.iload_n 2, 1) := dvX1_open_0 (30, .iload_n 2, 1) (List.mem_of_getElem? (i := 17) rfl)
theorem dX1_open_31 : decode cX1_open 31 = .ok (.iastore, 1) := dvX1_open_0 (31, .iastore, 1) (List.mem_of_getElem? (i := 18) rfl)
theorem dX1_open_32 : decode cX1_open 32 = .ok (.aload_n 0, 1) := dvX1_open_0 (32, .aload_n 0, 1) (List.mem_of_getElem? (i := 19) rfl)
theorem dX1_open_33 : decode cX1_open 33 = .ok (.getfield 18, 3) := dvX1_open_0 (33, .getfield 18, 3) (List.mem_of_getElem? (i := 20) rfl)
theorem dX1_open_36 : decode cX1_open 36 = .ok (.iload 4, 2) := dvX1_open_0 (36, .iload 4, 2) (List.mem_of_getElem? (i := 21) rfl)
theorem dX1_open_38 : decode cX1_open 38 = .ok (.iload_n 3, 1) := dvX1_open_0 (38, .iload_n 3, 1) (List.mem_of_getElem? (i := 22) rfl)
theorem dX1_open_39 : decode cX1_open 39 = .ok (.iastore, 1) := dvX1_open_0 (39, .iastore, 1) (List.mem_of_getElem? (i := 23) rfl)
theorem dX1_open_40 : decode cX1_open 40 = .ok (.aload_n 0, 1) := dvX1_open_0 (40, .aload_n 0, 1) (List.mem_of_getElem? (i := 24) rfl)
theorem dX1_open_41 : decode cX1_open 41 = .ok (.getfield 21, 3) := dvX1_open_0 (41, .getfield 21, 3) (List.mem_of_getElem? (i := 25) rfl)
theorem dX1_open_44 : decode cX1_open 44 = .ok (.iload 4, 2) := dvX1_open_0 (44, .iload 4, 2) (List.mem_of_getElem? (i := 26) rfl)
theorem dX1_open_46 : decode cX1_open 46 = .ok (.iconst 0, 1) := dvX1_open_0 (46, .iconst 0, 1) (List.mem_of_getElem? (i := 27) rfl)
theorem dX1_open_47 : decode cX1_open 47 = .ok (.iastore, 1) := dvX1_open_0 (47, .iastore, 1) (List.mem_of_getElem? (i := 28) rfl)
theorem dX1_open_48 : decode cX1_open 48 = .ok (.iload 4, 2) := dvX1_open_0 (48, .iload 4, 2) (List.mem_of_getElem? (i := 29) rfl)
theorem dX1_open_50 : decode cX1_open 50 = .ok (.ireturn, 1) := dvX1_open_0 (50, .ireturn, 1) (List.mem_of_getElem? (i := 30) rfl)
def dtX1_add_0 : List (Nat × Instr × Nat) := [(0, .aload_n 0, 1), (1, .getfield 30, 3), (4, .iload_n 1, 1), (5, .bipush 30, 2), (7, .imul, 1), (8, .aload_n 0, 1), (9, .getfield 27, 3), (12, .iload_n 1, 1), (13, .iaload, 1), (14, .iadd, 1), (15, .iload_n 2, 1), (16, .iastore, 1), (17, .aload_n 0, 1), (18, .getfield 27, 3), (21, .iload_n 1, 1), (22, .dup2, 1), (23, .iaload, 1), (24, .iconst 1, 1), (25, .iadd, 1), (26, .iastore, 1), (27, .aload_n 0, 1), (28, .getfield 33, 3), (31, .iload_n 2, 1), (32, .iload_n 1, 1), (33, .iastore, 1), (34, .return_, 1)]
set_option maxRecDepth 20000 in
theorem dvX1_add_0 : ∀ q ∈ dtX1_add_0, decode cX1_add q.1 = .ok q.2 := by decide +kernel
theorem dX1_add_0 : decode cX1_add 0 = .ok (.aload_n 0, 1) := dvX1_add_0 (0, .aload_n 0, 1) (List.mem_of_getElem? (i := 0) rfl)
theorem dX1_add_1 : decode cX1_add 1 = .ok (.getfield 30, 3) := dvX1_add_0 (1, .getfield 30, 3) (List.mem_of_getElem? (i := 1) rfl)
theorem dX1_add_4 : decode cX1_add 4 = .ok (.iload_n 1, 1) := dvX1_add_0 (4, .iload_n 1, 1) (List.mem_of_getElem? (i := 2) rfl)
theorem dX1_add_5 : decode cX1_add 5 = .ok (.bipush 30, 2) := dvX1_add_0 (5, .bipush 30, 2) (List.mem_of_getElem? (i := 3) rfl)
theorem dX1_add_7 : decode cX1_add 7 = .ok (.imul, 1) := dvX1_add_0 (7, .imul, 1) (List.mem_of_getElem? (i := 4) rfl)
theorem dX1_add_8 : decode cX1_add 8 = .ok (.aload_n 0, 1) := dvX1_add_0 (8, .aload_n 0, 1) (List.mem_of_getElem? (i := 5) rfl)
theorem dX1_add_9 : decode cX1_add 9 = .ok (.getfield 27, 3) := dvX1_add_0 (9, .getfield 27, 3) (List.mem_of_getElem? (i := 6) rfl)
theorem dX1_add_12 : decode cX1_add 12 = .ok (.iload_n 1, 1) := dvX1_add_0 (12, .iload_n 1, 1) (List.mem_of_getElem? (i := 7) rfl)
theorem dX1_add_13 : decode cX1_add 13 = .ok (.iaload, 1) := dvX1_add_0 (13, .iaload, 1) (List.mem_of_getElem? (i := 8) rfl)
theorem dX1_add_14 : decode cX1_add 14 = .ok (.iadd, 1) := dvX1_add_0 (14, .iadd, 1) (List.mem_of_getElem? (i := 9) rfl)
theorem dX1_add_15 : decode cX1_add 15 = .ok (.iload_n 2, 1) := dvX1_add_0 (15, .iload_n 2, 1) (List.mem_of_getElem? (i := 10) rfl)
theorem dX1_add_16 : decode cX1_add 16 = .ok (.iastore, 1) := dvX1_add_0 (16, .iastore, 1) (List.mem_of_getElem? (i := 11) rfl)
theorem dX1_add_17 : decode cX1_add 17 = .ok (.aload_n 0, 1) := dvX1_add_0 (17, .aload_n 0, 1) (List.mem_of_getElem? (i := 12) rfl)
theorem dX1_add_18 : decode cX1_add 18 = .ok (.getfield 27, 3) := dvX1_add_0 (18, .getfield 27, 3) (List.mem_of_getElem? (i := 13) rfl)
theorem dX1_add_21 : decode cX1_add 21 = .ok (.iload_n 1, 1) := dvX1_add_0 (21, .iload_n 1, 1) (List.mem_of_getElem? (i := 14) rfl)
theorem dX1_add_22 : decode cX1_add 22 = .ok (.dup2, 1) := dvX1_add_0 (22, .dup2, 1) (List.mem_of_getElem? (i := 15) rfl)
theorem dX1_add_23 : decode cX1_add 23 = .ok (.iaload, 1) := dvX1_add_0 (23, .iaload, 1) (List.mem_of_getElem? (i := 16) rfl)
theorem dX1_add_24 : decode cX1_add 24 = .ok (.iconst 1, 1) := dvX1_add_0 (24, .iconst 1, 1) (List.mem_of_getElem? (i := 17) rfl)
theorem dX1_add_25 : decode cX1_add 25 = .ok (.iadd, 1) := dvX1_add_0 (25, .iadd, 1) (List.mem_of_getElem? (i := 18) rfl)
theorem dX1_add_26 : decode cX1_add 26 = .ok (.iastore, 1) := dvX1_add_0 (26, .iastore, 1) (List.mem_of_getElem? (i := 19) rfl)
theorem dX1_add_27 : decode cX1_add 27 = .ok (.aload_n 0, 1) := dvX1_add_0 (27, .aload_n 0, 1) (List.mem_of_getElem? (i := 20) rfl)
theorem dX1_add_28 : decode cX1_add 28 = .ok (.getfield 33, 3) := dvX1_add_0 (28, .getfield 33, 3) (List.mem_of_getElem? (i := 21) rfl)
theorem dX1_add_31 : decode cX1_add 31 = .ok (.iload_n 2, 1) := dvX1_add_0 (31, .iload_n 2, 1) (List.mem_of_getElem? (i := 22) rfl)
theorem dX1_add_32 : decode cX1_add 32 = .ok (.iload_n 1, 1) := dvX1_add_0 (32, .iload_n 1, 1) (List.mem_of_getElem? (i := 23) rfl)
theorem dX1_add_33 : decode cX1_add 33 = .ok (.iastore, 1) := dvX1_add_0 (33, .iastore, 1) (List.mem_of_getElem? (i := 24) rfl)
theorem dX1_add_34 : decode cX1_add 34 = .ok (.return_, 1) := dvX1_add_0 (34, .return_, 1) (List.mem_of_getElem? (i := 25) rfl)
def dtX1_keep_0 : List (Nat × Instr × Nat) := [(0, .aload_n 0, 1), (1, .getfield 21, 3), (4, .iload_n 1, 1), (5, .iload_n 2, 1), (6, .iastore, 1), (7, .return_, 1)]
set_option maxRecDepth 20000 in
theorem dvX1_keep_0 : ∀ q ∈ dtX1_keep_0, decode cX1_keep q.1 = .ok q.2 := by decide +kernel
theorem dX1_keep_0 : decode cX1_keep 0 = .ok (.aload_n 0, 1) := dvX1_keep_0 (0, .aload_n 0, 1) (List.mem_of_getElem? (i := 0) rfl)
theorem dX1_keep_1 : decode cX1_keep 1 = .ok (.getfield 21, 3) := dvX1_keep_0 (1, .getfield 21, 3) (List.mem_of_getElem? (i := 1) rfl)
theorem dX1_keep_4 : decode cX1_keep 4 = .ok (.iload_n 1, 1) := dvX1_keep_0 (4, .iload_n 1, 1) (List.mem_of_getElem? (i := 2) rfl)
theorem dX1_keep_5 : decode cX1_keep 5 = .ok (.iload_n 2, 1) := dvX1_keep_0 (5, .iload_n 2, 1) (List.mem_of_getElem? (i := 3) rfl)
theorem dX1_keep_6 : decode cX1_keep 6 = .ok (.iastore, 1) := dvX1_keep_0 (6, .iastore, 1) (List.mem_of_getElem? (i := 4) rfl)
theorem dX1_keep_7 : decode cX1_keep 7 = .ok (.return_, 1) := dvX1_keep_0 (7, .return_, 1) (List.mem_of_getElem? (i := 5) rfl)
def dtX1_halve_0 : List (Nat × Instr × Nat) := [(0, .aload_n 0, 1), (1, .getfield 21, 3), (4, .iload_n 1, 1), (5, .iconst 1, 1), (6, .iastore, 1), (7, .aload_n 0, 1), (8, .getfield 24, 3), (11, .iload_n 1, 1), (12, .iload_n 2, 1), (13, .bipush 10, 2), (15, .iadd, 1), (16, .iastore, 1), (17, .return_, 1)]
set_option maxRecDepth 20000 in
theorem dvX1_halve_0 : ∀ q ∈ dtX1_halve_0, decode cX1_halve q.1 = .ok q.2 := by decide +kernel
theorem dX1_halve_0 : decode cX1_halve 0 = .ok (.aload_n 0, 1) := dvX1_halve_0 (0, .aload_n 0, 1) (List.mem_of_getElem? (i := 0) rfl)
theorem dX1_halve_1 : decode cX1_halve 1 = .ok (.getfield 21, 3) := dvX1_halve_0 (1, .getfield 21, 3) (List.mem_of_getElem? (i := 1) rfl)
theorem dX1_halve_4 : decode cX1_halve 4 = .ok (.iload_n 1, 1) := dvX1_halve_0 (4, .iload_n 1, 1) (List.mem_of_getElem? (i := 2) rfl)
theorem dX1_halve_5 : decode cX1_halve 5 = .ok (.iconst 1, 1) := dvX1_halve_0 (5, .iconst 1, 1) (List.mem_of_getElem? (i := 3) rfl)
theorem dX1_halve_6 : decode cX1_halve 6 = .ok (.iastore, 1) := dvX1_halve_0 (6, .iastore, 1) (List.mem_of_getElem? (i := 4) rfl)
theorem dX1_halve_7 : decode cX1_halve 7 = .ok (.aload_n 0, 1) := dvX1_halve_0 (7, .aload_n 0, 1) (List.mem_of_getElem? (i := 5) rfl)
theorem dX1_halve_8 : decode cX1_halve 8 = .ok (.getfield 24, 3) := dvX1_halve_0 (8, .getfield 24, 3) (List.mem_of_getElem? (i := 6) rfl)
theorem dX1_halve_11 : decode cX1_halve 11 = .ok (.iload_n 1, 1) := dvX1_halve_0 (11, .iload_n 1, 1) (List.mem_of_getElem? (i := 7) rfl)
theorem dX1_halve_12 : decode cX1_halve 12 = .ok (.iload_n 2, 1) := dvX1_halve_0 (12, .iload_n 2, 1) (List.mem_of_getElem? (i := 8) rfl)
theorem dX1_halve_13 : decode cX1_halve 13 = .ok (.bipush 10, 2) := dvX1_halve_0 (13, .bipush 10, 2) (List.mem_of_getElem? (i := 9) rfl)
theorem dX1_halve_15 : decode cX1_halve 15 = .ok (.iadd, 1) := dvX1_halve_0 (15, .iadd, 1) (List.mem_of_getElem? (i := 10) rfl)
theorem dX1_halve_16 : decode cX1_halve 16 = .ok (.iastore, 1) := dvX1_halve_0 (16, .iastore, 1) (List.mem_of_getElem? (i := 11) rfl)
theorem dX1_halve_17 : decode cX1_halve 17 = .ok (.return_, 1) := dvX1_halve_0 (17, .return_, 1) (List.mem_of_getElem? (i := 12) rfl)
def dtX1_release_0 : List (Nat × Instr × Nat) := [(0, .aload_n 0, 1), (1, .getfield 21, 3), (4, .iload_n 1, 1), (5, .iload_n 2, 1), (6, .iastore, 1), (7, .iconst 0, 1), (8, .istore_n 3, 1), (9, .iload_n 3, 1), (10, .aload_n 0, 1), (11, .getfield 27, 3), (14, .iload_n 1, 1), (15, .iaload, 1), (16, .if_icmp .ge 21, 3), (19, .aload_n 0, 1), (20, .getfield 33, 3), (23, .aload_n 0, 1), (24, .iload_n 1, 1), (25, .iload_n 3, 1), (26, .invokevirtual 46, 3), (29, .iconst (-1), 1), (30, .iastore, 1), (31, .iinc 3 1, 3), (34, .goto (-25), 3), (37, .return_, 1)]
set_option maxRecDepth 20000 in
theorem dvX1_release_0 : ∀ q ∈ dtX1_release_0, decode cX1_release q.1 = .ok q.2 := by decide +kernel
theorem dX1_release_0 : decode cX1_release 0 = .ok (.aload_n 0, 1) := dvX1_release_0 (0, .aload_n 0, 1) (List.mem_of_getElem? (i := 0) rfl)
theorem dX1_release_1 : decode cX1_release 1 = .ok (.getfield 21, 3) := dvX1_release_0 (1, .getfield 21, 3) (List.mem_of_getElem? (i := 1) rfl)
theorem dX1_release_4 : decode cX1_release 4 = .ok (.iload_n 1, 1) := dvX1_release_0 (4, .iload_n 1, 1) (List.mem_of_getElem? (i := 2) rfl)
theorem dX1_release_5 : decode cX1_release 5 = .ok (.iload_n 2, 1) := dvX1_release_0 (5, .iload_n 2, 1) (List.mem_of_getElem? (i := 3) rfl)
theorem dX1_release_6 : decode cX1_release 6 = .ok (.iastore, 1) := dvX1_release_0 (6, .iastore, 1) (List.mem_of_getElem? (i := 4) rfl)
theorem dX1_release_7 : decode cX1_release 7 = .ok (.iconst 0, 1) := dvX1_release_0 (7, .iconst 0, 1) (List.mem_of_getElem? (i := 5) rfl)
theorem dX1_release_8 : decode cX1_release 8 = .ok (.istore_n 3, 1) := dvX1_release_0 (8, .istore_n 3, 1) (List.mem_of_getElem? (i := 6) rfl)
theorem dX1_release_9 : decode cX1_release 9 = .ok (.iload_n 3, 1) := dvX1_release_0 (9, .iload_n 3, 1) (List.mem_of_getElem? (i := 7) rfl)
theorem dX1_release_10 : decode cX1_release 10 = .ok (.aload_n 0, 1) := dvX1_release_0 (10, .aload_n 0, 1) (List.mem_of_getElem? (i := 8) rfl)
theorem dX1_release_11 : decode cX1_release 11 = .ok (.getfield 27, 3) := dvX1_release_0 (11, .getfield 27, 3) (List.mem_of_getElem? (i := 9) rfl)
theorem dX1_release_14 : decode cX1_release 14 = .ok (.iload_n 1, 1) := dvX1_release_0 (14, .iload_n 1, 1) (List.mem_of_getElem? (i := 10) rfl)
theorem dX1_release_15 : decode cX1_release 15 = .ok (.iaload, 1) := dvX1_release_0 (15, .iaload, 1) (List.mem_of_getElem? (i := 11) rfl)
theorem dX1_release_16 : decode cX1_release 16 = .ok (.if_icmp .ge 21, 3) := dvX1_release_0 (16, .if_icmp .ge 21, 3) (List.mem_of_getElem? (i := 12) rfl)
theorem dX1_release_19 : decode cX1_release 19 = .ok (.aload_n 0, 1) := dvX1_release_0 (19, .aload_n 0, 1) (List.mem_of_getElem? (i := 13) rfl)
theorem dX1_release_20 : decode cX1_release 20 = .ok (.getfield 33, 3) := dvX1_release_0 (20, .getfield 33, 3) (List.mem_of_getElem? (i := 14) rfl)
theorem dX1_release_23 : decode cX1_release 23 = .ok (.aload_n 0, 1) := dvX1_release_0 (23, .aload_n 0, 1) (List.mem_of_getElem? (i := 15) rfl)
theorem dX1_release_24 : decode cX1_release 24 = .ok (.iload_n 1, 1) := dvX1_release_0 (24, .iload_n 1, 1) (List.mem_of_getElem? (i := 16) rfl)
theorem dX1_release_25 : decode cX1_release 25 = .ok (.iload_n 3, 1) := dvX1_release_0 (25, .iload_n 3, 1) (List.mem_of_getElem? (i := 17) rfl)
theorem dX1_release_26 : decode cX1_release 26 = .ok (.invokevirtual 46, 3) := dvX1_release_0 (26, .invokevirtual 46, 3) (List.mem_of_getElem? (i := 18) rfl)
theorem dX1_release_29 : decode cX1_release 29 = .ok (.iconst (-1), 1) := dvX1_release_0 (29, .iconst (-1), 1) (List.mem_of_getElem? (i := 19) rfl)
theorem dX1_release_30 : decode cX1_release 30 = .ok (.iastore, 1) := dvX1_release_0 (30, .iastore, 1) (List.mem_of_getElem? (i := 20) rfl)
theorem dX1_release_31 : decode cX1_release 31 = .ok (.iinc 3 1, 3) := dvX1_release_0 (31, .iinc 3 1, 3) (List.mem_of_getElem? (i := 21) rfl)
theorem dX1_release_34 : decode cX1_release 34 = .ok (.goto (-25), 3) := dvX1_release_0 (34, .goto (-25), 3) (List.mem_of_getElem? (i := 22) rfl)
theorem dX1_release_37 : decode cX1_release 37 = .ok (.return_, 1) := dvX1_release_0 (37, .return_, 1) (List.mem_of_getElem? (i := 23) rfl)
def dtX1_lapseAll_0 : List (Nat × Instr × Nat) := [(0, .iconst 0, 1), (1, .istore_n 2, 1), (2, .iconst 0, 1), (3, .istore_n 3, 1), (4, .iload_n 3, 1), (5, .aload_n 0, 1), (6, .getfield 42, 3), (9, .if_icmp .ge 38, 3), (12, .aload_n 0, 1), (13, .getfield 21, 3), (16, .iload_n 3, 1), (17, .iaload, 1), (18, .iconst 1, 1), (19, .if_icmp .ne 22, 3), (22, .aload_n 0, 1), (23, .getfield 24, 3), (26, .iload_n 3, 1), (27, .iaload, 1), (28, .iload_n 1, 1), (29, .if_icmp .gt 12, 3), (32, .aload_n 0, 1), (33, .iload_n 3, 1), (34, .iconst 5, 1), (35, .invokevirtual 50, 3), (38, .iinc 2 1, 3), (41, .iinc 3 1, 3), (44, .goto (-40), 3), (47, .iload_n 2, 1), (48, .ireturn, 1)]
set_option maxRecDepth 20000 in
theorem dvX1_lapseAll_0 : ∀ q ∈ dtX1_lapseAll_0, decode cX1_lapseAll q.1 = .ok q.2 := by decide +kernel
theorem dX1_lapseAll_0 : decode cX1_lapseAll 0 = .ok (.iconst 0, 1) := dvX1_lapseAll_0 (0, .iconst 0, 1) (List.mem_of_getElem? (i := 0) rfl)
theorem dX1_lapseAll_1 : decode cX1_lapseAll 1 = .ok (.istore_n 2, 1) := dvX1_lapseAll_0 (1, .istore_n 2, 1) (List.mem_of_getElem? (i := 1) rfl)
theorem dX1_lapseAll_2 : decode cX1_lapseAll 2 = .ok (.iconst 0, 1) := dvX1_lapseAll_0 (2, .iconst 0, 1) (List.mem_of_getElem? (i := 2) rfl)
theorem dX1_lapseAll_3 : decode cX1_lapseAll 3 = .ok (.istore_n 3, 1) := dvX1_lapseAll_0 (3, .istore_n 3, 1) (List.mem_of_getElem? (i := 3) rfl)
theorem dX1_lapseAll_4 : decode cX1_lapseAll 4 = .ok (.iload_n 3, 1) := dvX1_lapseAll_0 (4, .iload_n 3, 1) (List.mem_of_getElem? (i := 4) rfl)
theorem dX1_lapseAll_5 : decode cX1_lapseAll 5 = .ok (.aload_n 0, 1) := dvX1_lapseAll_0 (5, .aload_n 0, 1) (List.mem_of_getElem? (i := 5) rfl)
theorem dX1_lapseAll_6 : decode cX1_lapseAll 6 = .ok (.getfield 42, 3) := dvX1_lapseAll_0 (6, .getfield 42, 3) (List.mem_of_getElem? (i := 6) rfl)
theorem dX1_lapseAll_9 : decode cX1_lapseAll 9 = .ok (.if_icmp .ge 38, 3) := dvX1_lapseAll_0 (9, .if_icmp .ge 38, 3) (List.mem_of_getElem? (i := 7) rfl)
theorem dX1_lapseAll_12 : decode cX1_lapseAll 12 = .ok (.aload_n 0, 1) := dvX1_lapseAll_0 (12, .aload_n 0, 1) (List.mem_of_getElem? (i := 8) rfl)
theorem dX1_lapseAll_13 : decode cX1_lapseAll 13 = .ok (.getfield 21, 3) := dvX1_lapseAll_0 (13, .getfield 21, 3) (List.mem_of_getElem? (i := 9) rfl)
theorem dX1_lapseAll_16 : decode cX1_lapseAll 16 = .ok (.iload_n 3, 1) := dvX1_lapseAll_0 (16, .iload_n 3, 1) (List.mem_of_getElem? (i := 10) rfl)
theorem dX1_lapseAll_17 : decode cX1_lapseAll 17 = .ok (.iaload, 1) := dvX1_lapseAll_0 (17, .iaload, 1) (List.mem_of_getElem? (i := 11) rfl)
theorem dX1_lapseAll_18 : decode cX1_lapseAll 18 = .ok (.iconst 1, 1) := dvX1_lapseAll_0 (18, .iconst 1, 1) (List.mem_of_getElem? (i := 12) rfl)
theorem dX1_lapseAll_19 : decode cX1_lapseAll 19 = .ok (.if_icmp .ne 22, 3) := dvX1_lapseAll_0 (19, .if_icmp .ne 22, 3) (List.mem_of_getElem? (i := 13) rfl)
theorem dX1_lapseAll_22 : decode cX1_lapseAll 22 = .ok (.aload_n 0, 1) := dvX1_lapseAll_0 (22, .aload_n 0, 1) (List.mem_of_getElem? (i := 14) rfl)
theorem dX1_lapseAll_23 : decode cX1_lapseAll 23 = .ok (.getfield 24, 3) := dvX1_lapseAll_0 (23, .getfield 24, 3) (List.mem_of_getElem? (i := 15) rfl)
theorem dX1_lapseAll_26 : decode cX1_lapseAll 26 = .ok (.iload_n 3, 1) := dvX1_lapseAll_0 (26, .iload_n 3, 1) (List.mem_of_getElem? (i := 16) rfl)
theorem dX1_lapseAll_27 : decode cX1_lapseAll 27 = .ok (.iaload, 1) := dvX1_lapseAll_0 (27, .iaload, 1) (List.mem_of_getElem? (i := 17) rfl)
theorem dX1_lapseAll_28 : decode cX1_lapseAll 28 = .ok (.iload_n 1, 1) := dvX1_lapseAll_0 (28, .iload_n 1, 1) (List.mem_of_getElem? (i := 18) rfl)
theorem dX1_lapseAll_29 : decode cX1_lapseAll 29 = .ok (.if_icmp .gt 12, 3) := dvX1_lapseAll_0 (29, .if_icmp .gt 12, 3) (List.mem_of_getElem? (i := 19) rfl)
theorem dX1_lapseAll_32 : decode cX1_lapseAll 32 = .ok (.aload_n 0, 1) := dvX1_lapseAll_0 (32, .aload_n 0, 1) (List.mem_of_getElem? (i := 20) rfl)
theorem dX1_lapseAll_33 : decode cX1_lapseAll 33 = .ok (.iload_n 3, 1) := dvX1_lapseAll_0 (33, .iload_n 3, 1) (List.mem_of_getElem? (i := 21) rfl)
theorem dX1_lapseAll_34 : decode cX1_lapseAll 34 = .ok (.iconst 5, 1) := dvX1_lapseAll_0 (34, .iconst 5, 1) (List.mem_of_getElem? (i := 22) rfl)
theorem dX1_lapseAll_35 : decode cX1_lapseAll 35 = .ok (.invokevirtual 50, 3) := dvX1_lapseAll_0 (35, .invokevirtual 50, 3) (List.mem_of_getElem? (i := 23) rfl)
theorem dX1_lapseAll_38 : decode cX1_lapseAll 38 = .ok (.iinc 2 1, 3) := dvX1_lapseAll_0 (38, .iinc 2 1, 3) (List.mem_of_getElem? (i := 24) rfl)
theorem dX1_lapseAll_41 : decode cX1_lapseAll 41 = .ok (.iinc 3 1, 3) := dvX1_lapseAll_0 (41, .iinc 3 1, 3) (List.mem_of_getElem? (i := 25) rfl)
theorem dX1_lapseAll_44 : decode cX1_lapseAll 44 = .ok (.goto (-40), 3) := dvX1_lapseAll_0 (44, .goto (-40), 3) (List.mem_of_getElem? (i := 26) rfl)
theorem dX1_lapseAll_47 : decode cX1_lapseAll 47 = .ok (.iload_n 2, 1) := dvX1_lapseAll_0 (47, .iload_n 2, 1) (List.mem_of_getElem? (i := 27) rfl)
theorem dX1_lapseAll_48 : decode cX1_lapseAll 48 = .ok (.ireturn, 1) := dvX1_lapseAll_0 (48, .ireturn, 1) (List.mem_of_getElem? (i := 28) rfl)
def dtX2_init_0 : List (Nat × Instr × Nat) := [(0, .aload_n 0, 1), (1, .invokespecial 3, 3), (4, .aload_n 0, 1), (5, .bipush 55, 2), (7, .newarray .int, 2), (9, .putfield 9, 3), (12, .aload_n 0, 1), (13, .sipush 330, 3), (16, .newarray .int, 2), (18, .putfield 15, 3), (21, .return_, 1)]
set_option maxRecDepth 20000 in
theorem dvX2_init_0 : ∀ q ∈ dtX2_init_0, decode cX2_init q.1 = .ok q.2 := by decide +kernel
theorem dX2_init_0 : decode cX2_init 0 = .ok (.aload_n 0, 1) := dvX2_init_0 (0, .aload_n 0, 1) (List.mem_of_getElem? (i := 0) rfl)
theorem dX2_init_1 : decode cX2_init 1 = .ok (.invokespecial 3, 3) := dvX2_init_0 (1, .invokespecial 3, 3) (List.mem_of_getElem? (i := 1) rfl)
theorem dX2_init_4 : decode cX2_init 4 = .ok (.aload_n 0, 1) := dvX2_init_0 (4, .aload_n 0, 1) (List.mem_of_getElem? (i := 2) rfl)
theorem dX2_init_5 : decode cX2_init 5 = .ok (.bipush 55, 2) := dvX2_init_0 (5, .bipush 55, 2) (List.mem_of_getElem? (i := 3) rfl)
theorem dX2_init_7 : decode cX2_init 7 = .ok (.newarray .int, 2) := dvX2_init_0 (7, .newarray .int, 2) (List.mem_of_getElem? (i := 4) rfl)
theorem dX2_init_9 : decode cX2_init 9 = .ok (.putfield 9, 3) := dvX2_init_0 (9, .putfield 9, 3) (List.mem_of_getElem? (i := 5) rfl)
theorem dX2_init_12 : decode cX2_init 12 = .ok (.aload_n 0, 1) := dvX2_init_0 (12, .aload_n 0, 1) (List.mem_of_getElem? (i := 6) rfl)
theorem dX2_init_13 : decode cX2_init 13 = .ok (.sipush 330, 3) := dvX2_init_0 (13, .sipush 330, 3) (List.mem_of_getElem? (i := 7) rfl)
theorem dX2_init_16 : decode cX2_init 16 = .ok (.newarray .int, 2) := dvX2_init_0 (16, .newarray .int, 2) (List.mem_of_getElem? (i := 8) rfl)
theorem dX2_init_18 : decode cX2_init 18 = .ok (.putfield 15, 3) := dvX2_init_0 (18, .putfield 15, 3) (List.mem_of_getElem? (i := 9) rfl)
theorem dX2_init_21 : decode cX2_init 21 = .ok (.return_, 1) := dvX2_init_0 (21, .return_, 1) (List.mem_of_getElem? (i := 10) rfl)
def dtX2_count_0 : List (Nat × Instr × Nat) := [(0, .aload_n 0, 1), (1, .getfield 9, 3), (4, .iload_n 1, 1), (5, .iaload, 1), (6, .ireturn, 1)]
set_option maxRecDepth 20000 in
theorem dvX2_count_0 : ∀ q ∈ dtX2_count_0, decode cX2_count q.1 = .ok q.2 := by decide +kernel
theorem dX2_count_0 : decode cX2_count 0 = .ok (.aload_n 0, 1) := dvX2_count_0 (0, .aload_n 0, 1) (List.mem_of_getElem? (i := 0) rfl)
theorem dX2_count_1 : decode cX2_count 1 = .ok (.getfield 9, 3) := dvX2_count_0 (1, .getfield 9, 3) (List.mem_of_getElem? (i := 1) rfl)
theorem dX2_count_4 : decode cX2_count 4 = .ok (.iload_n 1, 1) := dvX2_count_0 (4, .iload_n 1, 1) (List.mem_of_getElem? (i := 2) rfl)
theorem dX2_count_5 : decode cX2_count 5 = .ok (.iaload, 1) := dvX2_count_0 (5, .iaload, 1) (List.mem_of_getElem? (i := 3) rfl)
theorem dX2_count_6 : decode cX2_count 6 = .ok (.ireturn, 1) := dvX2_count_0 (6, .ireturn, 1) (List.mem_of_getElem? (i := 4) rfl)
def dtX2_get_0 : List (Nat × Instr × Nat) := [(0, .aload_n 0, 1), (1, .getfield 15, 3), (4, .iload_n 1, 1), (5, .bipush 6, 2), (7, .imul, 1), (8, .iload_n 2, 1), (9, .iadd, 1), (10, .iaload, 1), (11, .ireturn, 1)]
set_option maxRecDepth 20000 in
theorem dvX2_get_0 : ∀ q ∈ dtX2_get_0, decode cX2_get q.1 = .ok q.2 := by decide +kernel
theorem dX2_get_0 : decode cX2_get 0 = .ok (.aload_n 0, 1) := dvX2_get_0 (0, .aload_n 0, 1) (List.mem_of_getElem? (i := 0) rfl)
theorem dX2_get_1 : decode cX2_get 1 = .ok (.getfield 15, 3) := dvX2_get_0 (1, .getfield 15, 3) (List.mem_of_getElem? (i := 1) rfl)
theorem dX2_get_4 : decode cX2_get 4 = .ok (.iload_n 1, 1) := dvX2_get_0 (4, .iload_n 1, 1) (List.mem_of_getElem? (i := 2) rfl)
theorem dX2_get_5 : decode cX2_get 5 = .ok (.bipush 6, 2) := dvX2_get_0 (5, .bipush 6, 2) (List.mem_of_getElem? (i := 3) rfl)
theorem dX2_get_7 : decode cX2_get 7 = .ok (.imul, 1) := dvX2_get_0 (7, .imul, 1) (List.mem_of_getElem? (i := 4) rfl)
theorem dX2_get_8 : decode cX2_get 8 = .ok (.iload_n 2, 1) := dvX2_get_0 (8, .iload_n 2, 1) (List.mem_of_getElem? (i := 5) rfl)
theorem dX2_get_9 : decode cX2_get 9 = .ok (.iadd, 1) := dvX2_get_0 (9, .iadd, 1) (List.mem_of_getElem? (i := 6) rfl)
theorem dX2_get_10 : decode cX2_get 10 = .ok (.iaload, 1) := dvX2_get_0 (10, .iaload, 1) (List.mem_of_getElem? (i := 7) rfl)
theorem dX2_get_11 : decode cX2_get 11 = .ok (.ireturn, 1) := dvX2_get_0 (11, .ireturn, 1) (List.mem_of_getElem? (i := 8) rfl)
def dtX2_hasRoom_0 : List (Nat × Instr × Nat) := [(0, .aload_n 0, 1), (1, .getfield 9, 3), (4, .iload_n 1, 1), (5, .iaload, 1), (6, .iload_n 2, 1), (7, .iadd, 1), (8, .bipush 6, 2), (10, .if_icmp .gt 7, 3), (13, .iconst 1, 1), (14, .goto 4, 3), (17, .iconst 0, 1), (18, .ireturn, 1)]
set_option maxRecDepth 20000 in
theorem dvX2_hasRoom_0 : ∀ q ∈ dtX2_hasRoom_0, decode cX2_hasRoom q.1 = .ok q.2 := by decide +kernel
theorem dX2_hasRoom_0 : decode cX2_hasRoom 0 = .ok (.aload_n 0, 1) := dvX2_hasRoom_0 (0, .aload_n 0, 1) (List.mem_of_getElem? (i := 0) rfl)
theorem dX2_hasRoom_1 : decode cX2_hasRoom 1 = .ok (.getfield 9, 3) := dvX2_hasRoom_0 (1, .getfield 9, 3) (List.mem_of_getElem? (i := 1) rfl)
theorem dX2_hasRoom_4 : decode cX2_hasRoom 4 = .ok (.iload_n 1, 1) := dvX2_hasRoom_0 (4, .iload_n 1, 1) (List.mem_of_getElem? (i := 2) rfl)
theorem dX2_hasRoom_5 : decode cX2_hasRoom 5 = .ok (.iaload, 1) := dvX2_hasRoom_0 (5, .iaload, 1) (List.mem_of_getElem? (i := 3) rfl)
theorem dX2_hasRoom_6 : decode cX2_hasRoom 6 = .ok (.iload_n 2, 1) := dvX2_hasRoom_0 (6, .iload_n 2, 1) (List.mem_of_getElem? (i := 4) rfl)
theorem dX2_hasRoom_7 : decode cX2_hasRoom 7 = .ok (.iadd, 1) := dvX2_hasRoom_0 (7, .iadd, 1) (List.mem_of_getElem? (i := 5) rfl)
theorem dX2_hasRoom_8 : decode cX2_hasRoom 8 = .ok (.bipush 6, 2) := dvX2_hasRoom_0 (8, .bipush 6, 2) (List.mem_of_getElem? (i := 6) rfl)
theorem dX2_hasRoom_10 : decode cX2_hasRoom 10 = .ok (.if_icmp .gt 7, 3) := dvX2_hasRoom_0 (10, .if_icmp .gt 7, 3) (List.mem_of_getElem? (i := 7) rfl)
theorem dX2_hasRoom_13 : decode cX2_hasRoom 13 = .ok (.iconst 1, 1) := dvX2_hasRoom_0 (13, .iconst 1, 1) (List.mem_of_getElem? (i := 8) rfl)
theorem dX2_hasRoom_14 : decode cX2_hasRoom 14 = .ok (.goto 4, 3) := dvX2_hasRoom_0 (14, .goto 4, 3) (List.mem_of_getElem? (i := 9) rfl)
theorem dX2_hasRoom_17 : decode cX2_hasRoom 17 = .ok (.iconst 0, 1) := dvX2_hasRoom_0 (17, .iconst 0, 1) (List.mem_of_getElem? (i := 10) rfl)
theorem dX2_hasRoom_18 : decode cX2_hasRoom 18 = .ok (.ireturn, 1) := dvX2_hasRoom_0 (18, .ireturn, 1) (List.mem_of_getElem? (i := 11) rfl)
def dtX2_put_0 : List (Nat × Instr × Nat) := [(0, .aload_n 0, 1), (1, .getfield 15, 3), (4, .iload_n 1, 1), (5, .bipush 6, 2), (7, .imul, 1), (8, .aload_n 0, 1), (9, .getfield 9, 3), (12, .iload_n 1, 1), (13, .iaload, 1), (14, .iadd, 1), (15, .iload_n 2, 1), (16, .iastore, 1), (17, .aload_n 0, 1), (18, .getfield 9, 3), (21, .iload_n 1, 1), (22, .dup2, 1), (23, .iaload, 1), (24, .iconst 1, 1), (25, .iadd, 1), (26, .iastore, 1), (27, .return_, 1)]
set_option maxRecDepth 20000 in
theorem dvX2_put_0 : ∀ q ∈ dtX2_put_0, decode cX2_put q.1 = .ok q.2 := by decide +kernel
theorem dX2_put_0 : decode cX2_put 0 = .ok (.aload_n 0, 1) := dvX2_put_0 (0, .aload_n 0, 1) (List.mem_of_getElem? (i := 0) rfl)
theorem dX2_put_1 : decode cX2_put 1 = .ok (.getfield 15, 3) := dvX2_put_0 (1, .getfield 15, 3) (List.mem_of_getElem? (i := 1) rfl)
theorem dX2_put_4 : decode cX2_put 4 = .ok (.iload_n 1, 1) := dvX2_put_0 (4, .iload_n 1, 1) (List.mem_of_getElem? (i := 2) rfl)
theorem dX2_put_5 : decode cX2_put 5 = .ok (.bipush 6, 2) := dvX2_put_0 (5, .bipush 6, 2) (List.mem_of_getElem? (i := 3) rfl)
theorem dX2_put_7 : decode cX2_put 7 = .ok (.imul, 1) := dvX2_put_0 (7, .imul, 1) (List.mem_of_getElem? (i := 4) rfl)
theorem dX2_put_8 : decode cX2_put 8 = .ok (.aload_n 0, 1) := dvX2_put_0 (8, .aload_n 0, 1) (List.mem_of_getElem? (i := 5) rfl)
theorem dX2_put_9 : decode cX2_put 9 = .ok (.getfield 9, 3) := dvX2_put_0 (9, .getfield 9, 3) (List.mem_of_getElem? (i := 6) rfl)
theorem dX2_put_12 : decode cX2_put 12 = .ok (.iload_n 1, 1) := dvX2_put_0 (12, .iload_n 1, 1) (List.mem_of_getElem? (i := 7) rfl)
theorem dX2_put_13 : decode cX2_put 13 = .ok (.iaload, 1) := dvX2_put_0 (13, .iaload, 1) (List.mem_of_getElem? (i := 8) rfl)
theorem dX2_put_14 : decode cX2_put 14 = .ok (.iadd, 1) := dvX2_put_0 (14, .iadd, 1) (List.mem_of_getElem? (i := 9) rfl)
theorem dX2_put_15 : decode cX2_put 15 = .ok (.iload_n 2, 1) := dvX2_put_0 (15, .iload_n 2, 1) (List.mem_of_getElem? (i := 10) rfl)
theorem dX2_put_16 : decode cX2_put 16 = .ok (.iastore, 1) := dvX2_put_0 (16, .iastore, 1) (List.mem_of_getElem? (i := 11) rfl)
theorem dX2_put_17 : decode cX2_put 17 = .ok (.aload_n 0, 1) := dvX2_put_0 (17, .aload_n 0, 1) (List.mem_of_getElem? (i := 12) rfl)
theorem dX2_put_18 : decode cX2_put 18 = .ok (.getfield 9, 3) := dvX2_put_0 (18, .getfield 9, 3) (List.mem_of_getElem? (i := 13) rfl)
theorem dX2_put_21 : decode cX2_put 21 = .ok (.iload_n 1, 1) := dvX2_put_0 (21, .iload_n 1, 1) (List.mem_of_getElem? (i := 14) rfl)
theorem dX2_put_22 : decode cX2_put 22 = .ok (.dup2, 1) := dvX2_put_0 (22, .dup2, 1) (List.mem_of_getElem? (i := 15) rfl)
theorem dX2_put_23 : decode cX2_put 23 = .ok (.iaload, 1) := dvX2_put_0 (23, .iaload, 1) (List.mem_of_getElem? (i := 16) rfl)
theorem dX2_put_24 : decode cX2_put 24 = .ok (.iconst 1, 1) := dvX2_put_0 (24, .iconst 1, 1) (List.mem_of_getElem? (i := 17) rfl)
theorem dX2_put_25 : decode cX2_put 25 = .ok (.iadd, 1) := dvX2_put_0 (25, .iadd, 1) (List.mem_of_getElem? (i := 18) rfl)
theorem dX2_put_26 : decode cX2_put 26 = .ok (.iastore, 1) := dvX2_put_0 (26, .iastore, 1) (List.mem_of_getElem? (i := 19) rfl)
theorem dX2_put_27 : decode cX2_put 27 = .ok (.return_, 1) := dvX2_put_0 (27, .return_, 1) (List.mem_of_getElem? (i := 20) rfl)
def dtX2_move_0 : List (Nat × Instr × Nat) := [(0, .iload_n 1, 1), (1, .bipush 6, 2), (3, .imul, 1), (4, .aload_n 0, 1), (5, .getfield 9, 3), (8, .iload_n 1, 1), (9, .iaload, 1), (10, .iadd, 1), (11, .iload_n 3, 1), (12, .isub, 1), (13, .istore 4, 2), (15, .iload_n 2, 1), (16, .bipush 6, 2), (18, .imul, 1), (19, .aload_n 0, 1), (20, .getfield 9, 3), (23, .iload_n 2, 1), (24, .iaload, 1), (25, .iadd, 1), (26, .istore 5, 2), (28, .iconst 0, 1), (29, .istore 6, 2), (31, .iload 6, 2), (33, .iload_n 3, 1), (34, .if_icmp .ge 29, 3), (37, .aload_n 0, 1), (38, .getfield 15, 3), (41, .iload 5, 2), (43, .iload 6, 2), (45, .iadd, 1), (46, .aload_n 0, 1), (47, .getfield 15, 3), (50, .iload 4, 2), (52, .iload 6, 2), (54, .iadd, 1), (55, .iaload, 1), (56, .iastore, 1), (57, .iinc 6 1, 3), (60, .goto (-29), 3), (63, .aload_n 0, 1), (64, .getfield 9, 3), (67, .iload_n 1, 1), (68, .dup2, 1), (69, .iaload, 1), (70, .iload_n 3, 1), (71, .isub, 1), (72, .iastore, 1), (73, .aload_n 0, 1), (74, .getfield 9, 3), (77, .iload_n 2, 1)]
set_option maxRecDepth 20000 in
theorem dvX2_move_0 : ∀ q ∈ dtX2_move_0, decode cX2_move q.1 = .ok q.2 := by decide +kernel
theorem dX2_move_0 : decode cX2_move 0 = .ok (.iload_n 1, 1) := dvX2_move_0 (0, .iload_n 1, 1) (List.mem_of_getElem? (i := 0) rfl)
theorem dX2_move_1 : decode cX2_move 1 = .ok (.bipush 6, 2) := dvX2_move_0 (1, .bipush 6, 2) (List.mem_of_getElem? (i := 1) rfl)
theorem dX2_move_3 : decode cX2_move 3 = .ok (.imul, 1) := dvX2_move_0 (3, .imul, 1) (List.mem_of_getElem? (i := 2) rfl)
theorem dX2_move_4 : decode cX2_move 4 = .ok (.aload_n 0, 1) := dvX2_move_0 (4, .aload_n 0, 1) (List.mem_of_getElem? (i := 3) rfl)
theorem dX2_move_5 : decode cX2_move 5 = .ok (.getfield 9, 3) := dvX2_move_0 (5, .getfield 9, 3) (List.mem_of_getElem? (i := 4) rfl)
theorem dX2_move_8 : decode cX2_move 8 = .ok (.iload_n 1, 1) := dvX2_move_0 (8, .iload_n 1, 1) (List.mem_of_getElem? (i := 5) rfl)
theorem dX2_move_9 : decode cX2_move 9 = .ok (.iaload, 1) := dvX2_move_0 (9, .iaload, 1) (List.mem_of_getElem? (i := 6) rfl)
theorem dX2_move_10 : decode cX2_move 10 = .ok (.iadd, 1) := dvX2_move_0 (10, .iadd, 1) (List.mem_of_getElem? (i := 7) rfl)
theorem dX2_move_11 : decode cX2_move 11 = .ok (.iload_n 3, 1) := dvX2_move_0 (11, .iload_n 3, 1) (List.mem_of_getElem? (i := 8) rfl)
theorem dX2_move_12 : decode cX2_move 12 = .ok (.isub, 1) := dvX2_move_0 (12, .isub, 1) (List.mem_of_getElem? (i := 9) rfl)
theorem dX2_move_13 : decode cX2_move 13 = .ok (.istore 4, 2) := dvX2_move_0 (13, .istore 4, 2) (List.mem_of_getElem? (i := 10) rfl)
theorem dX2_move_15 : decode cX2_move 15 = .ok (.iload_n 2, 1) := dvX2_move_0 (15, .iload_n 2, 1) (List.mem_of_getElem? (i := 11) rfl)
theorem dX2_move_16 : decode cX2_move 16 = .ok (.bipush 6, 2) := dvX2_move_0 (16, .bipush 6, 2) (List.mem_of_getElem? (i := 12) rfl)
theorem dX2_move_18 : decode cX2_move 18 = .ok (.imul, 1) := dvX2_move_0 (18, .imul, 1) (List.mem_of_getElem? (i := 13) rfl)
theorem dX2_move_19 : decode cX2_move 19 = .ok (.aload_n 0, 1) := dvX2_move_0 (19, .aload_n 0, 1) (List.mem_of_getElem? (i := 14) rfl)
theorem dX2_move_20 : decode cX2_move 20 = .ok (.getfield 9, 3) := dvX2_move_0 (20, .getfield 9, 3) (List.mem_of_getElem? (i := 15) rfl)
theorem dX2_move_23 : decode cX2_move 23 = .ok (.iload_n 2, 1) := dvX2_move_0 (23, .iload_n 2, 1) (List.mem_of_getElem? (i := 16) rfl)
theorem dX2_move_24 : decode cX2_move 24 = .ok (.iaload, 1) := dvX2_move_0 (24, .iaload, 1) (List.mem_of_getElem? (i := 17) rfl)
theorem dX2_move_25 : decode cX2_move 25 = .ok (.iadd, 1) := dvX2_move_0 (25, .iadd, 1) (List.mem_of_getElem? (i := 18) rfl)
theorem dX2_move_26 : decode cX2_move 26 = .ok (.istore 5, 2) := dvX2_move_0 (26, .istore 5, 2) (List.mem_of_getElem? (i := 19) rfl)
theorem dX2_move_28 : decode cX2_move 28 = .ok (.iconst 0, 1) := dvX2_move_0 (28, .iconst 0, 1) (List.mem_of_getElem? (i := 20) rfl)
theorem dX2_move_29 : decode cX2_move 29 = .ok (.istore 6, 2) := dvX2_move_0 (29, .istore 6, 2) (List.mem_of_getElem? (i := 21) rfl)
theorem dX2_move_31 : decode cX2_move 31 = .ok (.iload 6, 2) := dvX2_move_0 (31, .iload 6, 2) (List.mem_of_getElem? (i := 22) rfl)
theorem dX2_move_33 : decode cX2_move 33 = .ok (.iload_n 3, 1) := dvX2_move_0 (33, .iload_n 3, 1) (List.mem_of_getElem? (i := 23) rfl)
theorem dX2_move_34 : decode cX2_move 34 = .ok (.if_icmp .ge 29, 3) := dvX2_move_0 (34, .if_icmp .ge 29, 3) (List.mem_of_getElem? (i := 24) rfl)
theorem dX2_move_37 : decode cX2_move 37 = .ok (.aload_n 0, 1) := dvX2_move_0 (37, .aload_n 0, 1) (List.mem_of_getElem? (i := 25) rfl)
theorem dX2_move_38 : decode cX2_move 38 = .ok (.getfield 15, 3) := dvX2_move_0 (38, .getfield 15, 3) (List.mem_of_getElem? (i := 26) rfl)
theorem dX2_move_41 : decode cX2_move 41 = .ok (.iload 5, 2) := dvX2_move_0 (41, .iload 5, 2) (List.mem_of_getElem? (i := 27) rfl)
theorem dX2_move_43 : decode cX2_move 43 = .ok (.iload 6, 2) := dvX2_move_0 (43, .iload 6, 2) (List.mem_of_getElem? (i := 28) rfl)
theorem dX2_move_45 : decode cX2_move 45 = .ok (.iadd, 1) := dvX2_move_0 (45, .iadd, 1) (List.mem_of_getElem? (i := 29) rfl)
theorem dX2_move_46 : decode cX2_move 46 = .ok (.aload_n 0, 1) := dvX2_move_0 (46, .aload_n 0, 1) (List.mem_of_getElem? (i := 30) rfl)
theorem dX2_move_47 : decode cX2_move 47 = .ok (.getfield 15, 3) := dvX2_move_0 (47, .getfield 15, 3) (List.mem_of_getElem? (i := 31) rfl)
theorem dX2_move_50 : decode cX2_move 50 = .ok (.iload 4, 2) := dvX2_move_0 (50, .iload 4, 2) (List.mem_of_getElem? (i := 32) rfl)
theorem dX2_move_52 : decode cX2_move 52 = .ok (.iload 6, 2) := dvX2_move_0 (52, .iload 6, 2) (List.mem_of_getElem? (i := 33) rfl)
theorem dX2_move_54 : decode cX2_move 54 = .ok (.iadd, 1) := dvX2_move_0 (54, .iadd, 1) (List.mem_of_getElem? (i := 34) rfl)
theorem dX2_move_55 : decode cX2_move 55 = .ok (.iaload, 1) := dvX2_move_0 (55, .iaload, 1) (List.mem_of_getElem? (i := 35) rfl)
theorem dX2_move_56 : decode cX2_move 56 = .ok (.iastore, 1) := dvX2_move_0 (56, .iastore, 1) (List.mem_of_getElem? (i := 36) rfl)
theorem dX2_move_57 : decode cX2_move 57 = .ok (.iinc 6 1, 3) := dvX2_move_0 (57, .iinc 6 1, 3) (List.mem_of_getElem? (i := 37) rfl)
theorem dX2_move_60 : decode cX2_move 60 = .ok (.goto (-29), 3) := dvX2_move_0 (60, .goto (-29), 3) (List.mem_of_getElem? (i := 38) rfl)
theorem dX2_move_63 : decode cX2_move 63 = .ok (.aload_n 0, 1) := dvX2_move_0 (63, .aload_n 0, 1) (List.mem_of_getElem? (i := 39) rfl)
theorem dX2_move_64 : decode cX2_move 64 = .ok (.getfield 9, 3) := dvX2_move_0 (64, .getfield 9, 3) (List.mem_of_getElem? (i := 40) rfl)
theorem dX2_move_67 : decode cX2_move 67 = .ok (.iload_n 1, 1) := dvX2_move_0 (67, .iload_n 1, 1) (List.mem_of_getElem? (i := 41) rfl)
theorem dX2_move_68 : decode cX2_move 68 = .ok (.dup2, 1) := dvX2_move_0 (68, .dup2, 1) (List.mem_of_getElem? (i := 42) rfl)
theorem dX2_move_69 : decode cX2_move 69 = .ok (.iaload, 1) := dvX2_move_0 (69, .iaload, 1) (List.mem_of_getElem? (i := 43) rfl)
theorem dX2_move_70 : decode cX2_move 70 = .ok (.iload_n 3, 1) := dvX2_move_0 (70, .iload_n 3, 1) (List.mem_of_getElem? (i := 44) rfl)
theorem dX2_move_71 : decode cX2_move 71 = .ok (.isub, 1) := dvX2_move_0 (71, .isub, 1) (List.mem_of_getElem? (i := 45) rfl)
theorem dX2_move_72 : decode cX2_move 72 = .ok (.iastore, 1) := dvX2_move_0 (72, .iastore, 1) (List.mem_of_getElem? (i := 46) rfl)
theorem dX2_move_73 : decode cX2_move 73 = .ok (.aload_n 0, 1) := dvX2_move_0 (73, .aload_n 0, 1) (List.mem_of_getElem? (i := 47) rfl)
theorem dX2_move_74 : decode cX2_move 74 = .ok (.getfield 9, 3) := dvX2_move_0 (74, .getfield 9, 3) (List.mem_of_getElem? (i := 48) rfl)
theorem dX2_move_77 : decode cX2_move 77 = .ok (.iload_n 2, 1) := dvX2_move_0 (77, .iload_n 2, 1) (List.mem_of_getElem? (i := 49) rfl)
def dtX2_move_1 : List (Nat × Instr × Nat) := [(78, .dup2, 1), (79, .iaload, 1), (80, .iload_n 3, 1), (81, .iadd, 1), (82, .iastore, 1), (83, .return_, 1)]
set_option maxRecDepth 20000 in
theorem dvX2_move_1 : ∀ q ∈ dtX2_move_1, decode cX2_move q.1 = .ok q.2 := by decide +kernel
theorem dX2_move_78 : decode cX2_move 78 = .ok (.dup2, 1) := dvX2_move_1 (78, .dup2, 1) (List.mem_of_getElem? (i := 0) rfl)
theorem dX2_move_79 : decode cX2_move 79 = .ok (.iaload, 1) := dvX2_move_1 (79, .iaload, 1) (List.mem_of_getElem? (i := 1) rfl)
theorem dX2_move_80 : decode cX2_move 80 = .ok (.iload_n 3, 1) := dvX2_move_1 (80, .iload_n 3, 1) (List.mem_of_getElem? (i := 2) rfl)
theorem dX2_move_81 : decode cX2_move 81 = .ok (.iadd, 1) := dvX2_move_1 (81, .iadd, 1) (List.mem_of_getElem? (i := 3) rfl)
theorem dX2_move_82 : decode cX2_move 82 = .ok (.iastore, 1) := dvX2_move_1 (82, .iastore, 1) (List.mem_of_getElem? (i := 4) rfl)
theorem dX2_move_83 : decode cX2_move 83 = .ok (.return_, 1) := dvX2_move_1 (83, .return_, 1) (List.mem_of_getElem? (i := 5) rfl)
def dtX2_findOnTracks_0 : List (Nat × Instr × Nat) := [(0, .iconst 0, 1), (1, .istore_n 2, 1), (2, .iload_n 2, 1), (3, .bipush 15, 2), (5, .if_icmp .ge 39, 3), (8, .iconst 0, 1), (9, .istore_n 3, 1), (10, .iload_n 3, 1), (11, .aload_n 0, 1), (12, .getfield 9, 3), (15, .iload_n 2, 1), (16, .iaload, 1), (17, .if_icmp .ge 21, 3), (20, .aload_n 0, 1), (21, .iload_n 2, 1), (22, .iload_n 3, 1), (23, .invokevirtual 18, 3), (26, .iload_n 1, 1), (27, .if_icmp .ne 5, 3), (30, .iload_n 2, 1), (31, .ireturn, 1), (32, .iinc 3 1, 3), (35, .goto (-25), 3), (38, .iinc 2 1, 3), (41, .goto (-39), 3), (44, .iconst (-1), 1), (45, .ireturn, 1)]
set_option maxRecDepth 20000 in
theorem dvX2_findOnTracks_0 : ∀ q ∈ dtX2_findOnTracks_0, decode cX2_findOnTracks q.1 = .ok q.2 := by decide +kernel
theorem dX2_findOnTracks_0 : decode cX2_findOnTracks 0 = .ok (.iconst 0, 1) := dvX2_findOnTracks_0 (0, .iconst 0, 1) (List.mem_of_getElem? (i := 0) rfl)
theorem dX2_findOnTracks_1 : decode cX2_findOnTracks 1 = .ok (.istore_n 2, 1) := dvX2_findOnTracks_0 (1, .istore_n 2, 1) (List.mem_of_getElem? (i := 1) rfl)
theorem dX2_findOnTracks_2 : decode cX2_findOnTracks 2 = .ok (.iload_n 2, 1) := dvX2_findOnTracks_0 (2, .iload_n 2, 1) (List.mem_of_getElem? (i := 2) rfl)
theorem dX2_findOnTracks_3 : decode cX2_findOnTracks 3 = .ok (.bipush 15, 2) := dvX2_findOnTracks_0 (3, .bipush 15, 2) (List.mem_of_getElem? (i := 3) rfl)
theorem dX2_findOnTracks_5 : decode cX2_findOnTracks 5 = .ok (.if_icmp .ge 39, 3) := dvX2_findOnTracks_0 (5, .if_icmp .ge 39, 3) (List.mem_of_getElem? (i := 4) rfl)
theorem dX2_findOnTracks_8 : decode cX2_findOnTracks 8 = .ok (.iconst 0, 1) := dvX2_findOnTracks_0 (8, .iconst 0, 1) (List.mem_of_getElem? (i := 5) rfl)
theorem dX2_findOnTracks_9 : decode cX2_findOnTracks 9 = .ok (.istore_n 3, 1) := dvX2_findOnTracks_0 (9, .istore_n 3, 1) (List.mem_of_getElem? (i := 6) rfl)
theorem dX2_findOnTracks_10 : decode cX2_findOnTracks 10 = .ok (.iload_n 3, 1) := dvX2_findOnTracks_0 (10, .iload_n 3, 1) (List.mem_of_getElem? (i := 7) rfl)
theorem dX2_findOnTracks_11 : decode cX2_findOnTracks 11 = .ok (.aload_n 0, 1) := dvX2_findOnTracks_0 (11, .aload_n 0, 1) (List.mem_of_getElem? (i := 8) rfl)
theorem dX2_findOnTracks_12 : decode cX2_findOnTracks 12 = .ok (.getfield 9, 3) := dvX2_findOnTracks_0 (12, .getfield 9, 3) (List.mem_of_getElem? (i := 9) rfl)
theorem dX2_findOnTracks_15 : decode cX2_findOnTracks 15 = .ok (.iload_n 2, 1) := dvX2_findOnTracks_0 (15, .iload_n 2, 1) (List.mem_of_getElem? (i := 10) rfl)
theorem dX2_findOnTracks_16 : decode cX2_findOnTracks 16 = .ok (.iaload, 1) := dvX2_findOnTracks_0 (16, .iaload, 1) (List.mem_of_getElem? (i := 11) rfl)
theorem dX2_findOnTracks_17 : decode cX2_findOnTracks 17 = .ok (.if_icmp .ge 21, 3) := dvX2_findOnTracks_0 (17, .if_icmp .ge 21, 3) (List.mem_of_getElem? (i := 12) rfl)
theorem dX2_findOnTracks_20 : decode cX2_findOnTracks 20 = .ok (.aload_n 0, 1) := dvX2_findOnTracks_0 (20, .aload_n 0, 1) (List.mem_of_getElem? (i := 13) rfl)
theorem dX2_findOnTracks_21 : decode cX2_findOnTracks 21 = .ok (.iload_n 2, 1) := dvX2_findOnTracks_0 (21, .iload_n 2, 1) (List.mem_of_getElem? (i := 14) rfl)
theorem dX2_findOnTracks_22 : decode cX2_findOnTracks 22 = .ok (.iload_n 3, 1) := dvX2_findOnTracks_0 (22, .iload_n 3, 1) (List.mem_of_getElem? (i := 15) rfl)
theorem dX2_findOnTracks_23 : decode cX2_findOnTracks 23 = .ok (.invokevirtual 18, 3) := dvX2_findOnTracks_0 (23, .invokevirtual 18, 3) (List.mem_of_getElem? (i := 16) rfl)
theorem dX2_findOnTracks_26 : decode cX2_findOnTracks 26 = .ok (.iload_n 1, 1) := dvX2_findOnTracks_0 (26, .iload_n 1, 1) (List.mem_of_getElem? (i := 17) rfl)
theorem dX2_findOnTracks_27 : decode cX2_findOnTracks 27 = .ok (.if_icmp .ne 5, 3) := dvX2_findOnTracks_0 (27, .if_icmp .ne 5, 3) (List.mem_of_getElem? (i := 18) rfl)
theorem dX2_findOnTracks_30 : decode cX2_findOnTracks 30 = .ok (.iload_n 2, 1) := dvX2_findOnTracks_0 (30, .iload_n 2, 1) (List.mem_of_getElem? (i := 19) rfl)
theorem dX2_findOnTracks_31 : decode cX2_findOnTracks 31 = .ok (.ireturn, 1) := dvX2_findOnTracks_0 (31, .ireturn, 1) (List.mem_of_getElem? (i := 20) rfl)
theorem dX2_findOnTracks_32 : decode cX2_findOnTracks 32 = .ok (.iinc 3 1, 3) := dvX2_findOnTracks_0 (32, .iinc 3 1, 3) (List.mem_of_getElem? (i := 21) rfl)
theorem dX2_findOnTracks_35 : decode cX2_findOnTracks 35 = .ok (.goto (-25), 3) := dvX2_findOnTracks_0 (35, .goto (-25), 3) (List.mem_of_getElem? (i := 22) rfl)
theorem dX2_findOnTracks_38 : decode cX2_findOnTracks 38 = .ok (.iinc 2 1, 3) := dvX2_findOnTracks_0 (38, .iinc 2 1, 3) (List.mem_of_getElem? (i := 23) rfl)
theorem dX2_findOnTracks_41 : decode cX2_findOnTracks 41 = .ok (.goto (-39), 3) := dvX2_findOnTracks_0 (41, .goto (-39), 3) (List.mem_of_getElem? (i := 24) rfl)
theorem dX2_findOnTracks_44 : decode cX2_findOnTracks 44 = .ok (.iconst (-1), 1) := dvX2_findOnTracks_0 (44, .iconst (-1), 1) (List.mem_of_getElem? (i := 25) rfl)
theorem dX2_findOnTracks_45 : decode cX2_findOnTracks 45 = .ok (.ireturn, 1) := dvX2_findOnTracks_0 (45, .ireturn, 1) (List.mem_of_getElem? (i := 26) rfl)
def dtX2_clear_0 : List (Nat × Instr × Nat) := [(0, .aload_n 0, 1), (1, .getfield 9, 3), (4, .iconst 0, 1), (5, .invokestatic 22, 3), (8, .return_, 1)]
set_option maxRecDepth 20000 in
theorem dvX2_clear_0 : ∀ q ∈ dtX2_clear_0, decode cX2_clear q.1 = .ok q.2 := by decide +kernel
theorem dX2_clear_0 : decode cX2_clear 0 = .ok (.aload_n 0, 1) := dvX2_clear_0 (0, .aload_n 0, 1) (List.mem_of_getElem? (i := 0) rfl)
theorem dX2_clear_1 : decode cX2_clear 1 = .ok (.getfield 9, 3) := dvX2_clear_0 (1, .getfield 9, 3) (List.mem_of_getElem? (i := 1) rfl)
theorem dX2_clear_4 : decode cX2_clear 4 = .ok (.iconst 0, 1) := dvX2_clear_0 (4, .iconst 0, 1) (List.mem_of_getElem? (i := 2) rfl)
theorem dX2_clear_5 : decode cX2_clear 5 = .ok (.invokestatic 22, 3) := dvX2_clear_0 (5, .invokestatic 22, 3) (List.mem_of_getElem? (i := 3) rfl)
theorem dX2_clear_8 : decode cX2_clear 8 = .ok (.return_, 1) := dvX2_clear_0 (8, .return_, 1) (List.mem_of_getElem? (i := 4) rfl)
def dtX3_init_0 : List (Nat × Instr × Nat) := [(0, .aload_n 0, 1), (1, .invokespecial 3, 3), (4, .aload_n 0, 1), (5, .bipush 60, 2), (7, .newarray .int, 2), (9, .putfield 9, 3), (12, .aload_n 0, 1), (13, .bipush 60, 2), (15, .newarray .int, 2), (17, .putfield 15, 3), (20, .aload_n 0, 1), (21, .bipush 60, 2), (23, .newarray .int, 2), (25, .putfield 18, 3), (28, .aload_n 0, 1), (29, .bipush 60, 2), (31, .newarray .int, 2), (33, .putfield 21, 3), (36, .aload_n 0, 1), (37, .bipush 60, 2), (39, .newarray .int, 2), (41, .putfield 24, 3), (44, .aload_n 0, 1), (45, .bipush 6, 2), (47, .newarray .int, 2), (49, .putfield 27, 3), (52, .aload_n 0, 1), (53, .bipush 6, 2), (55, .newarray .int, 2), (57, .putfield 30, 3), (60, .aload_n 0, 1), (61, .iconst 3, 1), (62, .newarray .int, 2), (64, .putfield 33, 3), (67, .aload_n 0, 1), (68, .getfield 27, 3), (71, .iconst (-1), 1), (72, .invokestatic 36, 3), (75, .aload_n 0, 1), (76, .getfield 30, 3), (79, .iconst (-1), 1), (80, .invokestatic 36, 3), (83, .aload_n 0, 1), (84, .getfield 33, 3), (87, .iconst 1, 1), (88, .invokestatic 36, 3), (91, .return_, 1)]
set_option maxRecDepth 20000 in
theorem dvX3_init_0 : ∀ q ∈ dtX3_init_0, decode cX3_init q.1 = .ok q.2 := by decide +kernel
theorem dX3_init_0 : decode cX3_init 0 = .ok (.aload_n 0, 1) := dvX3_init_0 (0, .aload_n 0, 1) (List.mem_of_getElem? (i := 0) rfl)
theorem dX3_init_1 : decode cX3_init 1 = .ok (.invokespecial 3, 3) := dvX3_init_0 (1, .invokespecial 3, 3) (List.mem_of_getElem? (i := 1) rfl)
theorem dX3_init_4 : decode cX3_init 4 = .ok (.aload_n 0, 1) := dvX3_init_0 (4, .aload_n 0, 1) (List.mem_of_getElem? (i := 2) rfl)
theorem dX3_init_5 : decode cX3_init 5 = .ok (.bipush 60, 2) := dvX3_init_0 (5, .bipush 60, 2) (List.mem_of_getElem? (i := 3) rfl)
theorem dX3_init_7 : decode cX3_init 7 = .ok (.newarray .int, 2) := dvX3_init_0 (7, .newarray .int, 2) (List.mem_of_getElem? (i := 4) rfl)
theorem dX3_init_9 : decode cX3_init 9 = .ok (.putfield 9, 3) := dvX3_init_0 (9, .putfield 9, 3) (List.mem_of_getElem? (i := 5) rfl)
theorem dX3_init_12 : decode cX3_init 12 = .ok (.aload_n 0, 1) := dvX3_init_0 (12, .aload_n 0, 1) (List.mem_of_getElem? (i := 6) rfl)
theorem dX3_init_13 : decode cX3_init 13 = .ok (.bipush 60, 2) := dvX3_init_0 (13, .bipush 60, 2) (List.mem_of_getElem? (i := 7) rfl)
theorem dX3_init_15 : decode cX3_init 15 = .ok (.newarray .int, 2) := dvX3_init_0 (15, .newarray .int, 2) (List.mem_of_getElem? (i := 8) rfl)
theorem dX3_init_17 : decode cX3_init 17 = .ok (.putfield 15, 3) := dvX3_init_0 (17, .putfield 15, 3) (List.mem_of_getElem? (i := 9) rfl)
theorem dX3_init_20 : decode cX3_init 20 = .ok (.aload_n 0, 1) := dvX3_init_0 (20, .aload_n 0, 1) (List.mem_of_getElem? (i := 10) rfl)
theorem dX3_init_21 : decode cX3_init 21 = .ok (.bipush 60, 2) := dvX3_init_0 (21, .bipush 60, 2) (List.mem_of_getElem? (i := 11) rfl)
theorem dX3_init_23 : decode cX3_init 23 = .ok (.newarray .int, 2) := dvX3_init_0 (23, .newarray .int, 2) (List.mem_of_getElem? (i := 12) rfl)
theorem dX3_init_25 : decode cX3_init 25 = .ok (.putfield 18, 3) := dvX3_init_0 (25, .putfield 18, 3) (List.mem_of_getElem? (i := 13) rfl)
theorem dX3_init_28 : decode cX3_init 28 = .ok (.aload_n 0, 1) := dvX3_init_0 (28, .aload_n 0, 1) (List.mem_of_getElem? (i := 14) rfl)
theorem dX3_init_29 : decode cX3_init 29 = .ok (.bipush 60, 2) := dvX3_init_0 (29, .bipush 60, 2) (List.mem_of_getElem? (i := 15) rfl)
theorem dX3_init_31 : decode cX3_init 31 = .ok (.newarray .int, 2) := dvX3_init_0 (31, .newarray .int, 2) (List.mem_of_getElem? (i := 16) rfl)
theorem dX3_init_33 : decode cX3_init 33 = .ok (.putfield 21, 3) := dvX3_init_0 (33, .putfield 21, 3) (List.mem_of_getElem? (i := 17) rfl)
theorem dX3_init_36 : decode cX3_init 36 = .ok (.aload_n 0, 1) := dvX3_init_0 (36, .aload_n 0, 1) (List.mem_of_getElem? (i := 18) rfl)
theorem dX3_init_37 : decode cX3_init 37 = .ok (.bipush 60, 2) := dvX3_init_0 (37, .bipush 60, 2) (List.mem_of_getElem? (i := 19) rfl)
theorem dX3_init_39 : decode cX3_init 39 = .ok (.newarray .int, 2) := dvX3_init_0 (39, .newarray .int, 2) (List.mem_of_getElem? (i := 20) rfl)
theorem dX3_init_41 : decode cX3_init 41 = .ok (.putfield 24, 3) := dvX3_init_0 (41, .putfield 24, 3) (List.mem_of_getElem? (i := 21) rfl)
theorem dX3_init_44 : decode cX3_init 44 = .ok (.aload_n 0, 1) := dvX3_init_0 (44, .aload_n 0, 1) (List.mem_of_getElem? (i := 22) rfl)
theorem dX3_init_45 : decode cX3_init 45 = .ok (.bipush 6, 2) := dvX3_init_0 (45, .bipush 6, 2) (List.mem_of_getElem? (i := 23) rfl)
theorem dX3_init_47 : decode cX3_init 47 = .ok (.newarray .int, 2) := dvX3_init_0 (47, .newarray .int, 2) (List.mem_of_getElem? (i := 24) rfl)
theorem dX3_init_49 : decode cX3_init 49 = .ok (.putfield 27, 3) := dvX3_init_0 (49, .putfield 27, 3) (List.mem_of_getElem? (i := 25) rfl)
theorem dX3_init_52 : decode cX3_init 52 = .ok (.aload_n 0, 1) := dvX3_init_0 (52, .aload_n 0, 1) (List.mem_of_getElem? (i := 26) rfl)
theorem dX3_init_53 : decode cX3_init 53 = .ok (.bipush 6, 2) := dvX3_init_0 (53, .bipush 6, 2) (List.mem_of_getElem? (i := 27) rfl)
theorem dX3_init_55 : decode cX3_init 55 = .ok (.newarray .int, 2) := dvX3_init_0 (55, .newarray .int, 2) (List.mem_of_getElem? (i := 28) rfl)
theorem dX3_init_57 : decode cX3_init 57 = .ok (.putfield 30, 3) := dvX3_init_0 (57, .putfield 30, 3) (List.mem_of_getElem? (i := 29) rfl)
theorem dX3_init_60 : decode cX3_init 60 = .ok (.aload_n 0, 1) := dvX3_init_0 (60, .aload_n 0, 1) (List.mem_of_getElem? (i := 30) rfl)
theorem dX3_init_61 : decode cX3_init 61 = .ok (.iconst 3, 1) := dvX3_init_0 (61, .iconst 3, 1) (List.mem_of_getElem? (i := 31) rfl)
theorem dX3_init_62 : decode cX3_init 62 = .ok (.newarray .int, 2) := dvX3_init_0 (62, .newarray .int, 2) (List.mem_of_getElem? (i := 32) rfl)
theorem dX3_init_64 : decode cX3_init 64 = .ok (.putfield 33, 3) := dvX3_init_0 (64, .putfield 33, 3) (List.mem_of_getElem? (i := 33) rfl)
theorem dX3_init_67 : decode cX3_init 67 = .ok (.aload_n 0, 1) := dvX3_init_0 (67, .aload_n 0, 1) (List.mem_of_getElem? (i := 34) rfl)
theorem dX3_init_68 : decode cX3_init 68 = .ok (.getfield 27, 3) := dvX3_init_0 (68, .getfield 27, 3) (List.mem_of_getElem? (i := 35) rfl)
theorem dX3_init_71 : decode cX3_init 71 = .ok (.iconst (-1), 1) := dvX3_init_0 (71, .iconst (-1), 1) (List.mem_of_getElem? (i := 36) rfl)
theorem dX3_init_72 : decode cX3_init 72 = .ok (.invokestatic 36, 3) := dvX3_init_0 (72, .invokestatic 36, 3) (List.mem_of_getElem? (i := 37) rfl)
theorem dX3_init_75 : decode cX3_init 75 = .ok (.aload_n 0, 1) := dvX3_init_0 (75, .aload_n 0, 1) (List.mem_of_getElem? (i := 38) rfl)
theorem dX3_init_76 : decode cX3_init 76 = .ok (.getfield 30, 3) := dvX3_init_0 (76, .getfield 30, 3) (List.mem_of_getElem? (i := 39) rfl)
theorem dX3_init_79 : decode cX3_init 79 = .ok (.iconst (-1), 1) := dvX3_init_0 (79, .iconst (-1), 1) (List.mem_of_getElem? (i := 40) rfl)
theorem dX3_init_80 : decode cX3_init 80 = .ok (.invokestatic 36, 3) := dvX3_init_0 (80, .invokestatic 36, 3) (List.mem_of_getElem? (i := 41) rfl)
theorem dX3_init_83 : decode cX3_init 83 = .ok (.aload_n 0, 1) := dvX3_init_0 (83, .aload_n 0, 1) (List.mem_of_getElem? (i := 42) rfl)
theorem dX3_init_84 : decode cX3_init 84 = .ok (.getfield 33, 3) := dvX3_init_0 (84, .getfield 33, 3) (List.mem_of_getElem? (i := 43) rfl)
theorem dX3_init_87 : decode cX3_init 87 = .ok (.iconst 1, 1) := dvX3_init_0 (87, .iconst 1, 1) (List.mem_of_getElem? (i := 44) rfl)
theorem dX3_init_88 : decode cX3_init 88 = .ok (.invokestatic 36, 3) := dvX3_init_0 (88, .invokestatic 36, 3) (List.mem_of_getElem? (i := 45) rfl)
theorem dX3_init_91 : decode cX3_init 91 = .ok (.return_, 1) := dvX3_init_0 (91, .return_, 1) (List.mem_of_getElem? (i := 46) rfl)
def dtX3_hasBegun_0 : List (Nat × Instr × Nat) := [(0, .iload_n 1, 1), (1, .ifCond .lt 15, 3), (4, .iload_n 1, 1), (5, .aload_n 0, 1), (6, .getfield 42, 3), (9, .if_icmp .ge 7, 3), (12, .iconst 1, 1), (13, .goto 4, 3), (16, .iconst 0, 1), (17, .ireturn, 1)]
set_option maxRecDepth 20000 in
theorem dvX3_hasBegun_0 : ∀ q ∈ dtX3_hasBegun_0, decode cX3_hasBegun q.1 = .ok q.2 := by decide +kernel
theorem dX3_hasBegun_0 : decode cX3_hasBegun 0 = .ok (.iload_n 1, 1) := dvX3_hasBegun_0 (0, .iload_n 1, 1) (List.mem_of_getElem? (i := 0) rfl)
theorem dX3_hasBegun_1 : decode cX3_hasBegun 1 = .ok (.ifCond .lt 15, 3) := dvX3_hasBegun_0 (1, .ifCond .lt 15, 3) (List.mem_of_getElem? (i := 1) rfl)
theorem dX3_hasBegun_4 : decode cX3_hasBegun 4 = .ok (.iload_n 1, 1) := dvX3_hasBegun_0 (4, .iload_n 1, 1) (List.mem_of_getElem? (i := 2) rfl)
theorem dX3_hasBegun_5 : decode cX3_hasBegun 5 = .ok (.aload_n 0, 1) := dvX3_hasBegun_0 (5, .aload_n 0, 1) (List.mem_of_getElem? (i := 3) rfl)
theorem dX3_hasBegun_6 : decode cX3_hasBegun 6 = .ok (.getfield 42, 3) := dvX3_hasBegun_0 (6, .getfield 42, 3) (List.mem_of_getElem? (i := 4) rfl)
theorem dX3_hasBegun_9 : decode cX3_hasBegun 9 = .ok (.if_icmp .ge 7, 3) := dvX3_hasBegun_0 (9, .if_icmp .ge 7, 3) (List.mem_of_getElem? (i := 5) rfl)
theorem dX3_hasBegun_12 : decode cX3_hasBegun 12 = .ok (.iconst 1, 1) := dvX3_hasBegun_0 (12, .iconst 1, 1) (List.mem_of_getElem? (i := 6) rfl)
theorem dX3_hasBegun_13 : decode cX3_hasBegun 13 = .ok (.goto 4, 3) := dvX3_hasBegun_0 (13, .goto 4, 3) (List.mem_of_getElem? (i := 7) rfl)
theorem dX3_hasBegun_16 : decode cX3_hasBegun 16 = .ok (.iconst 0, 1) := dvX3_hasBegun_0 (16, .iconst 0, 1) (List.mem_of_getElem? (i := 8) rfl)
theorem dX3_hasBegun_17 : decode cX3_hasBegun 17 = .ok (.ireturn, 1) := dvX3_hasBegun_0 (17, .ireturn, 1) (List.mem_of_getElem? (i := 9) rfl)
def dtX3_isFull_0 : List (Nat × Instr × Nat) := [(0, .aload_n 0, 1), (1, .getfield 42, 3), (4, .bipush 60, 2), (6, .if_icmp .lt 7, 3), (9, .iconst 1, 1), (10, .goto 4, 3), (13, .iconst 0, 1), (14, .ireturn, 1)]
set_option maxRecDepth 20000 in
theorem dvX3_isFull_0 : ∀ q ∈ dtX3_isFull_0, decode cX3_isFull q.1 = .ok q.2 := by decide +kernel
theorem dX3_isFull_0 : decode cX3_isFull 0 = .ok (.aload_n 0, 1) := dvX3_isFull_0 (0, .aload_n 0, 1) (List.mem_of_getElem? (i := 0) rfl)
theorem dX3_isFull_1 : decode cX3_isFull 1 = .ok (.getfield 42, 3) := dvX3_isFull_0 (1, .getfield 42, 3) (List.mem_of_getElem? (i := 1) rfl)
theorem dX3_isFull_4 : decode cX3_isFull 4 = .ok (.bipush 60, 2) := dvX3_isFull_0 (4, .bipush 60, 2) (List.mem_of_getElem? (i := 2) rfl)
theorem dX3_isFull_6 : decode cX3_isFull 6 = .ok (.if_icmp .lt 7, 3) := dvX3_isFull_0 (6, .if_icmp .lt 7, 3) (List.mem_of_getElem? (i := 3) rfl)
theorem dX3_isFull_9 : decode cX3_isFull 9 = .ok (.iconst 1, 1) := dvX3_isFull_0 (9, .iconst 1, 1) (List.mem_of_getElem? (i := 4) rfl)
theorem dX3_isFull_10 : decode cX3_isFull 10 = .ok (.goto 4, 3) := dvX3_isFull_0 (10, .goto 4, 3) (List.mem_of_getElem? (i := 5) rfl)
theorem dX3_isFull_13 : decode cX3_isFull 13 = .ok (.iconst 0, 1) := dvX3_isFull_0 (13, .iconst 0, 1) (List.mem_of_getElem? (i := 6) rfl)
theorem dX3_isFull_14 : decode cX3_isFull 14 = .ok (.ireturn, 1) := dvX3_isFull_0 (14, .ireturn, 1) (List.mem_of_getElem? (i := 7) rfl)
def dtX3_ongoing_0 : List (Nat × Instr × Nat) := [(0, .aload_n 0, 1), (1, .getfield 27, 3), (4, .iload_n 1, 1), (5, .iaload, 1), (6, .ireturn, 1)]
set_option maxRecDepth 20000 in
theorem dvX3_ongoing_0 : ∀ q ∈ dtX3_ongoing_0, decode cX3_ongoing q.1 = .ok q.2 := by decide +kernel
theorem dX3_ongoing_0 : decode cX3_ongoing 0 = .ok (.aload_n 0, 1) := dvX3_ongoing_0 (0, .aload_n 0, 1) (List.mem_of_getElem? (i := 0) rfl)
theorem dX3_ongoing_1 : decode cX3_ongoing 1 = .ok (.getfield 27, 3) := dvX3_ongoing_0 (1, .getfield 27, 3) (List.mem_of_getElem? (i := 1) rfl)
theorem dX3_ongoing_4 : decode cX3_ongoing 4 = .ok (.iload_n 1, 1) := dvX3_ongoing_0 (4, .iload_n 1, 1) (List.mem_of_getElem? (i := 2) rfl)
theorem dX3_ongoing_5 : decode cX3_ongoing 5 = .ok (.iaload, 1) := dvX3_ongoing_0 (5, .iaload, 1) (List.mem_of_getElem? (i := 3) rfl)
theorem dX3_ongoing_6 : decode cX3_ongoing 6 = .ok (.ireturn, 1) := dvX3_ongoing_0 (6, .ireturn, 1) (List.mem_of_getElem? (i := 4) rfl)
def dtX3_goesOn_0 : List (Nat × Instr × Nat) := [(0, .aload_n 0, 1), (1, .getfield 27, 3), (4, .aload_n 0, 1), (5, .getfield 9, 3), (8, .iload_n 1, 1), (9, .iaload, 1), (10, .iaload, 1), (11, .iload_n 1, 1), (12, .if_icmp .ne 7, 3), (15, .iconst 1, 1), (16, .goto 4, 3), (19, .iconst 0, 1), (20, .ireturn, 1)]
set_option maxRecDepth 20000 in
theorem dvX3_goesOn_0 : ∀ q ∈ dtX3_goesOn_0, decode cX3_goesOn q.1 = .ok q.2 := by decide +kernel
theorem dX3_goesOn_0 : decode cX3_goesOn 0 = .ok (.aload_n 0, 1) := dvX3_goesOn_0 (0, .aload_n 0, 1) (List.mem_of_getElem? (i := 0) rfl)
theorem dX3_goesOn_1 : decode cX3_goesOn 1 = .ok (.getfield 27, 3) := dvX3_goesOn_0 (1, .getfield 27, 3) (List.mem_of_getElem? (i := 1) rfl)
theorem dX3_goesOn_4 : decode cX3_goesOn 4 = .ok (.aload_n 0, 1) := dvX3_goesOn_0 (4, .aload_n 0, 1) (List.mem_of_getElem? (i := 2) rfl)
theorem dX3_goesOn_5 : decode cX3_goesOn 5 = .ok (.getfield 9, 3) := dvX3_goesOn_0 (5, .getfield 9, 3) (List.mem_of_getElem? (i := 3) rfl)
theorem dX3_goesOn_8 : decode cX3_goesOn 8 = .ok (.iload_n 1, 1) := dvX3_goesOn_0 (8, .iload_n 1, 1) (List.mem_of_getElem? (i := 4) rfl)
theorem dX3_goesOn_9 : decode cX3_goesOn 9 = .ok (.iaload, 1) := dvX3_goesOn_0 (9, .iaload, 1) (List.mem_of_getElem? (i := 5) rfl)
theorem dX3_goesOn_10 : decode cX3_goesOn 10 = .ok (.iaload, 1) := dvX3_goesOn_0 (10, .iaload, 1) (List.mem_of_getElem? (i := 6) rfl)
theorem dX3_goesOn_11 : decode cX3_goesOn 11 = .ok (.iload_n 1, 1) := dvX3_goesOn_0 (11, .iload_n 1, 1) (List.mem_of_getElem? (i := 7) rfl)
theorem dX3_goesOn_12 : decode cX3_goesOn 12 = .ok (.if_icmp .ne 7, 3) := dvX3_goesOn_0 (12, .if_icmp .ne 7, 3) (List.mem_of_getElem? (i := 8) rfl)
theorem dX3_goesOn_15 : decode cX3_goesOn 15 = .ok (.iconst 1, 1) := dvX3_goesOn_0 (15, .iconst 1, 1) (List.mem_of_getElem? (i := 9) rfl)
theorem dX3_goesOn_16 : decode cX3_goesOn 16 = .ok (.goto 4, 3) := dvX3_goesOn_0 (16, .goto 4, 3) (List.mem_of_getElem? (i := 10) rfl)
theorem dX3_goesOn_19 : decode cX3_goesOn 19 = .ok (.iconst 0, 1) := dvX3_goesOn_0 (19, .iconst 0, 1) (List.mem_of_getElem? (i := 11) rfl)
theorem dX3_goesOn_20 : decode cX3_goesOn 20 = .ok (.ireturn, 1) := dvX3_goesOn_0 (20, .ireturn, 1) (List.mem_of_getElem? (i := 12) rfl)
def dtX3_customer_0 : List (Nat × Instr × Nat) := [(0, .aload_n 0, 1), (1, .getfield 9, 3), (4, .iload_n 1, 1), (5, .iaload, 1), (6, .ireturn, 1)]
set_option maxRecDepth 20000 in
theorem dvX3_customer_0 : ∀ q ∈ dtX3_customer_0, decode cX3_customer q.1 = .ok q.2 := by decide +kernel
theorem dX3_customer_0 : decode cX3_customer 0 = .ok (.aload_n 0, 1) := dvX3_customer_0 (0, .aload_n 0, 1) (List.mem_of_getElem? (i := 0) rfl)
theorem dX3_customer_1 : decode cX3_customer 1 = .ok (.getfield 9, 3) := dvX3_customer_0 (1, .getfield 9, 3) (List.mem_of_getElem? (i := 1) rfl)
theorem dX3_customer_4 : decode cX3_customer 4 = .ok (.iload_n 1, 1) := dvX3_customer_0 (4, .iload_n 1, 1) (List.mem_of_getElem? (i := 2) rfl)
theorem dX3_customer_5 : decode cX3_customer 5 = .ok (.iaload, 1) := dvX3_customer_0 (5, .iaload, 1) (List.mem_of_getElem? (i := 3) rfl)
theorem dX3_customer_6 : decode cX3_customer 6 = .ok (.ireturn, 1) := dvX3_customer_0 (6, .ireturn, 1) (List.mem_of_getElem? (i := 4) rfl)
def dtX3_yard_0 : List (Nat × Instr × Nat) := [(0, .aload_n 0, 1), (1, .getfield 15, 3), (4, .iload_n 1, 1), (5, .iaload, 1), (6, .ireturn, 1)]
set_option maxRecDepth 20000 in
theorem dvX3_yard_0 : ∀ q ∈ dtX3_yard_0, decode cX3_yard q.1 = .ok q.2 := by decide +kernel
theorem dX3_yard_0 : decode cX3_yard 0 = .ok (.aload_n 0, 1) := dvX3_yard_0 (0, .aload_n 0, 1) (List.mem_of_getElem? (i := 0) rfl)
theorem dX3_yard_1 : decode cX3_yard 1 = .ok (.getfield 15, 3) := dvX3_yard_0 (1, .getfield 15, 3) (List.mem_of_getElem? (i := 1) rfl)
theorem dX3_yard_4 : decode cX3_yard 4 = .ok (.iload_n 1, 1) := dvX3_yard_0 (4, .iload_n 1, 1) (List.mem_of_getElem? (i := 2) rfl)
theorem dX3_yard_5 : decode cX3_yard 5 = .ok (.iaload, 1) := dvX3_yard_0 (5, .iaload, 1) (List.mem_of_getElem? (i := 3) rfl)
theorem dX3_yard_6 : decode cX3_yard 6 = .ok (.ireturn, 1) := dvX3_yard_0 (6, .ireturn, 1) (List.mem_of_getElem? (i := 4) rfl)
def dtX3_openBooking_0 : List (Nat × Instr × Nat) := [(0, .aload_n 0, 1), (1, .getfield 18, 3), (4, .iload_n 1, 1), (5, .iaload, 1), (6, .ireturn, 1)]
set_option maxRecDepth 20000 in
theorem dvX3_openBooking_0 : ∀ q ∈ dtX3_openBooking_0, decode cX3_openBooking q.1 = .ok q.2 := by decide +kernel
theorem dX3_openBooking_0 : decode cX3_openBooking 0 = .ok (.aload_n 0, 1) := dvX3_openBooking_0 (0, .aload_n 0, 1) (List.mem_of_getElem? (i := 0) rfl)
theorem dX3_openBooking_1 : decode cX3_openBooking 1 = .ok (.getfield 18, 3) := dvX3_openBooking_0 (1, .getfield 18, 3) (List.mem_of_getElem? (i := 1) rfl)
theorem dX3_openBooking_4 : decode cX3_openBooking 4 = .ok (.iload_n 1, 1) := dvX3_openBooking_0 (4, .iload_n 1, 1) (List.mem_of_getElem? (i := 2) rfl)
theorem dX3_openBooking_5 : decode cX3_openBooking 5 = .ok (.iaload, 1) := dvX3_openBooking_0 (5, .iaload, 1) (List.mem_of_getElem? (i := 3) rfl)
theorem dX3_openBooking_6 : decode cX3_openBooking 6 = .ok (.ireturn, 1) := dvX3_openBooking_0 (6, .ireturn, 1) (List.mem_of_getElem? (i := 4) rfl)
def dtX3_setOpenBooking_0 : List (Nat × Instr × Nat) := [(0, .aload_n 0, 1), (1, .getfield 18, 3), (4, .iload_n 1, 1), (5, .iload_n 2, 1), (6, .iastore, 1), (7, .return_, 1)]
set_option maxRecDepth 20000 in
theorem dvX3_setOpenBooking_0 : ∀ q ∈ dtX3_setOpenBooking_0, decode cX3_setOpenBooking q.1 = .ok q.2 := by decide +kernel
theorem dX3_setOpenBooking_0 : decode cX3_setOpenBooking 0 = .ok (.aload_n 0, 1) := dvX3_setOpenBooking_0 (0, .aload_n 0, 1) (List.mem_of_getElem? (i := 0) rfl)
theorem dX3_setOpenBooking_1 : decode cX3_setOpenBooking 1 = .ok (.getfield 18, 3) := dvX3_setOpenBooking_0 (1, .getfield 18, 3) (List.mem_of_getElem? (i := 1) rfl)
theorem dX3_setOpenBooking_4 : decode cX3_setOpenBooking 4 = .ok (.iload_n 1, 1) := dvX3_setOpenBooking_0 (4, .iload_n 1, 1) (List.mem_of_getElem? (i := 2) rfl)
theorem dX3_setOpenBooking_5 : decode cX3_setOpenBooking 5 = .ok (.iload_n 2, 1) := dvX3_setOpenBooking_0 (5, .iload_n 2, 1) (List.mem_of_getElem? (i := 3) rfl)
theorem dX3_setOpenBooking_6 : decode cX3_setOpenBooking 6 = .ok (.iastore, 1) := dvX3_setOpenBooking_0 (6, .iastore, 1) (List.mem_of_getElem? (i := 4) rfl)
theorem dX3_setOpenBooking_7 : decode cX3_setOpenBooking 7 = .ok (.return_, 1) := dvX3_setOpenBooking_0 (7, .return_, 1) (List.mem_of_getElem? (i := 5) rfl)
def dtX3_trunksOf_0 : List (Nat × Instr × Nat) := [(0, .aload_n 0, 1), (1, .getfield 21, 3), (4, .iload_n 1, 1), (5, .iaload, 1), (6, .iconst (-1), 1), (7, .if_icmp .ne 7, 3), (10, .iconst 0, 1), (11, .goto 4, 3), (14, .iconst 1, 1), (15, .aload_n 0, 1), (16, .getfield 24, 3), (19, .iload_n 1, 1), (20, .iaload, 1), (21, .iconst (-1), 1), (22, .if_icmp .ne 7, 3), (25, .iconst 0, 1), (26, .goto 4, 3), (29, .iconst 1, 1), (30, .iadd, 1), (31, .ireturn, 1)]
set_option maxRecDepth 20000 in
theorem dvX3_trunksOf_0 : ∀ q ∈ dtX3_trunksOf_0, decode cX3_trunksOf q.1 = .ok q.2 := by decide +kernel
theorem dX3_trunksOf_0 : decode cX3_trunksOf 0 = .ok (.aload_n 0, 1) := dvX3_trunksOf_0 (0, .aload_n 0, 1) (List.mem_of_getElem? (i := 0) rfl)
theorem dX3_trunksOf_1 : decode cX3_trunksOf 1 = .ok (.getfield 21, 3) := dvX3_trunksOf_0 (1, .getfield 21, 3) (List.mem_of_getElem? (i := 1) rfl)
theorem dX3_trunksOf_4 : decode cX3_trunksOf 4 = .ok (.iload_n 1, 1) := dvX3_trunksOf_0 (4, .iload_n 1, 1) (List.mem_of_getElem? (i := 2) rfl)
theorem dX3_trunksOf_5 : decode cX3_trunksOf 5 = .ok (.iaload, 1) := dvX3_trunksOf_0 (5, .iaload, 1) (List.mem_of_getElem? (i := 3) rfl)
theorem dX3_trunksOf_6 : decode cX3_trunksOf 6 = .ok (.iconst (-1), 1) := dvX3_trunksOf_0 (6, .iconst (-1), 1) (List.mem_of_getElem? (i := 4) rfl)
theorem dX3_trunksOf_7 : decode cX3_trunksOf 7 = .ok (.if_icmp .ne 7, 3) := dvX3_trunksOf_0 (7, .if_icmp .ne 7, 3) (List.mem_of_getElem? (i := 5) rfl)
theorem dX3_trunksOf_10 : decode cX3_trunksOf 10 = .ok (.iconst 0, 1) := dvX3_trunksOf_0 (10, .iconst 0, 1) (List.mem_of_getElem? (i := 6) rfl)
theorem dX3_trunksOf_11 : decode cX3_trunksOf 11 = .ok (.goto 4, 3) := dvX3_trunksOf_0 (11, .goto 4, 3) (List.mem_of_getElem? (i := 7) rfl)
theorem dX3_trunksOf_14 : decode cX3_trunksOf 14 = .ok (.iconst 1, 1) := dvX3_trunksOf_0 (14, .iconst 1, 1) (List.mem_of_getElem? (i := 8) rfl)
theorem dX3_trunksOf_15 : decode cX3_trunksOf 15 = .ok (.aload_n 0, 1) := dvX3_trunksOf_0 (15, .aload_n 0, 1) (List.mem_of_getElem? (i := 9) rfl)
theorem dX3_trunksOf_16 : decode cX3_trunksOf 16 = .ok (.getfield 24, 3) := dvX3_trunksOf_0 (16, .getfield 24, 3) (List.mem_of_getElem? (i := 10) rfl)
theorem dX3_trunksOf_19 : decode cX3_trunksOf 19 = .ok (.iload_n 1, 1) := dvX3_trunksOf_0 (19, .iload_n 1, 1) (List.mem_of_getElem? (i := 11) rfl)
theorem dX3_trunksOf_20 : decode cX3_trunksOf 20 = .ok (.iaload, 1) := dvX3_trunksOf_0 (20, .iaload, 1) (List.mem_of_getElem? (i := 12) rfl)
theorem dX3_trunksOf_21 : decode cX3_trunksOf 21 = .ok (.iconst (-1), 1) := dvX3_trunksOf_0 (21, .iconst (-1), 1) (List.mem_of_getElem? (i := 13) rfl)
theorem dX3_trunksOf_22 : decode cX3_trunksOf 22 = .ok (.if_icmp .ne 7, 3) := dvX3_trunksOf_0 (22, .if_icmp .ne 7, 3) (List.mem_of_getElem? (i := 14) rfl)
theorem dX3_trunksOf_25 : decode cX3_trunksOf 25 = .ok (.iconst 0, 1) := dvX3_trunksOf_0 (25, .iconst 0, 1) (List.mem_of_getElem? (i := 15) rfl)
theorem dX3_trunksOf_26 : decode cX3_trunksOf 26 = .ok (.goto 4, 3) := dvX3_trunksOf_0 (26, .goto 4, 3) (List.mem_of_getElem? (i := 16) rfl)
theorem dX3_trunksOf_29 : decode cX3_trunksOf 29 = .ok (.iconst 1, 1) := dvX3_trunksOf_0 (29, .iconst 1, 1) (List.mem_of_getElem? (i := 17) rfl)
theorem dX3_trunksOf_30 : decode cX3_trunksOf 30 = .ok (.iadd, 1) := dvX3_trunksOf_0 (30, .iadd, 1) (List.mem_of_getElem? (i := 18) rfl)
theorem dX3_trunksOf_31 : decode cX3_trunksOf 31 = .ok (.ireturn, 1) := dvX3_trunksOf_0 (31, .ireturn, 1) (List.mem_of_getElem? (i := 19) rfl)
def dtX3_trunkHas_0 : List (Nat × Instr × Nat) := [(0, .aload_n 0, 1), (1, .getfield 30, 3), (4, .iload_n 1, 1), (5, .iaload, 1), (6, .ireturn, 1)]
set_option maxRecDepth 20000 in
theorem dvX3_trunkHas_0 : ∀ q ∈ dtX3_trunkHas_0, decode cX3_trunkHas q.1 = .ok q.2 := by decide +kernel
theorem dX3_trunkHas_0 : decode cX3_trunkHas 0 = .ok (.aload_n 0, 1) := dvX3_trunkHas_0 (0, .aload_n 0, 1) (List.mem_of_getElem? (i := 0) rfl)
theorem dX3_trunkHas_1 : decode cX3_trunkHas 1 = .ok (.getfield 30, 3) := dvX3_trunkHas_0 (1, .getfield 30, 3) (List.mem_of_getElem? (i := 1) rfl)
theorem dX3_trunkHas_4 : decode cX3_trunkHas 4 = .ok (.iload_n 1, 1) := dvX3_trunkHas_0 (4, .iload_n 1, 1) (List.mem_of_getElem? (i := 2) rfl)
theorem dX3_trunkHas_5 : decode cX3_trunkHas 5 = .ok (.iaload, 1) := dvX3_trunkHas_0 (5, .iaload, 1) (List.mem_of_getElem? (i := 3) rfl)
theorem dX3_trunkHas_6 : decode cX3_trunkHas 6 = .ok (.ireturn, 1) := dvX3_trunkHas_0 (6, .ireturn, 1) (List.mem_of_getElem? (i := 4) rfl)
def dtX3_setTrunk_0 : List (Nat × Instr × Nat) := [(0, .aload_n 0, 1), (1, .getfield 30, 3), (4, .iload_n 1, 1), (5, .iload_n 2, 1), (6, .iastore, 1), (7, .return_, 1)]
set_option maxRecDepth 20000 in
theorem dvX3_setTrunk_0 : ∀ q ∈ dtX3_setTrunk_0, decode cX3_setTrunk q.1 = .ok q.2 := by decide +kernel
theorem dX3_setTrunk_0 : decode cX3_setTrunk 0 = .ok (.aload_n 0, 1) := dvX3_setTrunk_0 (0, .aload_n 0, 1) (List.mem_of_getElem? (i := 0) rfl)
theorem dX3_setTrunk_1 : decode cX3_setTrunk 1 = .ok (.getfield 30, 3) := dvX3_setTrunk_0 (1, .getfield 30, 3) (List.mem_of_getElem? (i := 1) rfl)
theorem dX3_setTrunk_4 : decode cX3_setTrunk 4 = .ok (.iload_n 1, 1) := dvX3_setTrunk_0 (4, .iload_n 1, 1) (List.mem_of_getElem? (i := 2) rfl)
theorem dX3_setTrunk_5 : decode cX3_setTrunk 5 = .ok (.iload_n 2, 1) := dvX3_setTrunk_0 (5, .iload_n 2, 1) (List.mem_of_getElem? (i := 3) rfl)
theorem dX3_setTrunk_6 : decode cX3_setTrunk 6 = .ok (.iastore, 1) := dvX3_setTrunk_0 (6, .iastore, 1) (List.mem_of_getElem? (i := 4) rfl)
theorem dX3_setTrunk_7 : decode cX3_setTrunk 7 = .ok (.return_, 1) := dvX3_setTrunk_0 (7, .return_, 1) (List.mem_of_getElem? (i := 5) rfl)
def dtX3_callsTo_0 : List (Nat × Instr × Nat) := [(0, .iconst 0, 1), (1, .istore_n 2, 1), (2, .iconst 0, 1), (3, .istore_n 3, 1), (4, .iload_n 3, 1), (5, .bipush 6, 2), (7, .if_icmp .ge 37, 3), (10, .aload_n 0, 1), (11, .getfield 27, 3), (14, .iload_n 3, 1), (15, .iaload, 1), (16, .istore 4, 2), (18, .iload 4, 2), (20, .iconst (-1), 1), (21, .if_icmp .eq 17, 3), (24, .aload_n 0, 1), (25, .getfield 15, 3), (28, .iload 4, 2), (30, .iaload, 1), (31, .iload_n 1, 1), (32, .if_icmp .ne 6, 3), (35, .iinc 2 1, 3), (38, .iinc 3 1, 3), (41, .goto (-37), 3), (44, .iload_n 2, 1), (45, .ireturn, 1)]
set_option maxRecDepth 20000 in
theorem dvX3_callsTo_0 : ∀ q ∈ dtX3_callsTo_0, decode cX3_callsTo q.1 = .ok q.2 := by decide +kernel
theorem dX3_callsTo_0 : decode cX3_callsTo 0 = .ok (.iconst 0, 1) := dvX3_callsTo_0 (0, .iconst 0, 1) (List.mem_of_getElem? (i := 0) rfl)
theorem dX3_callsTo_1 : decode cX3_callsTo 1 = .ok (.istore_n 2, 1) := dvX3_callsTo_0 (1, .istore_n 2, 1) (List.mem_of_getElem? (i := 1) rfl)
theorem dX3_callsTo_2 : decode cX3_callsTo 2 = .ok (.iconst 0, 1) := dvX3_callsTo_0 (2, .iconst 0, 1) (List.mem_of_getElem? (i := 2) rfl)
theorem dX3_callsTo_3 : decode cX3_callsTo 3 = .ok (.istore_n 3, 1) := dvX3_callsTo_0 (3, .istore_n 3, 1) (List.mem_of_getElem? (i := 3) rfl)
theorem dX3_callsTo_4 : decode cX3_callsTo 4 = .ok (.iload_n 3, 1) := dvX3_callsTo_0 (4, .iload_n 3, 1) (List.mem_of_getElem? (i := 4) rfl)
theorem dX3_callsTo_5 : decode cX3_callsTo 5 = .ok (.bipush 6, 2) := dvX3_callsTo_0 (5, .bipush 6, 2) (List.mem_of_getElem? (i := 5) rfl)
theorem dX3_callsTo_7 : decode cX3_callsTo 7 = .ok (.if_icmp .ge 37, 3) := dvX3_callsTo_0 (7, .if_icmp .ge 37, 3) (List.mem_of_getElem? (i := 6) rfl)
theorem dX3_callsTo_10 : decode cX3_callsTo 10 = .ok (.aload_n 0, 1) := dvX3_callsTo_0 (10, .aload_n 0, 1) (List.mem_of_getElem? (i := 7) rfl)
theorem dX3_callsTo_11 : decode cX3_callsTo 11 = .ok (.getfield 27, 3) := dvX3_callsTo_0 (11, .getfield 27, 3) (List.mem_of_getElem? (i := 8) rfl)
theorem dX3_callsTo_14 : decode cX3_callsTo 14 = .ok (.iload_n 3, 1) := dvX3_callsTo_0 (14, .iload_n 3, 1) (List.mem_of_getElem? (i := 9) rfl)
theorem dX3_callsTo_15 : decode cX3_callsTo 15 = .ok (.iaload, 1) := dvX3_callsTo_0 (15, .iaload, 1) (List.mem_of_getElem? (i := 10) rfl)
theorem dX3_callsTo_16 : decode cX3_callsTo 16 = .ok (.istore 4, 2) := dvX3_callsTo_0 (16, .istore 4, 2) (List.mem_of_getElem? (i := 11) rfl)
theorem dX3_callsTo_18 : decode cX3_callsTo 18 = .ok (.iload 4, 2) := dvX3_callsTo_0 (18, .iload 4, 2) (List.mem_of_getElem? (i := 12) rfl)
theorem dX3_callsTo_20 : decode cX3_callsTo 20 = .ok (.iconst (-1), 1) := dvX3_callsTo_0 (20, .iconst (-1), 1) (List.mem_of_getElem? (i := 13) rfl)
theorem dX3_callsTo_21 : decode cX3_callsTo 21 = .ok (.if_icmp .eq 17, 3) := dvX3_callsTo_0 (21, .if_icmp .eq 17, 3) (List.mem_of_getElem? (i := 14) rfl)
theorem dX3_callsTo_24 : decode cX3_callsTo 24 = .ok (.aload_n 0, 1) := dvX3_callsTo_0 (24, .aload_n 0, 1) (List.mem_of_getElem? (i := 15) rfl)
theorem dX3_callsTo_25 : decode cX3_callsTo 25 = .ok (.getfield 15, 3) := dvX3_callsTo_0 (25, .getfield 15, 3) (List.mem_of_getElem? (i := 16) rfl)
theorem dX3_callsTo_28 : decode cX3_callsTo 28 = .ok (.iload 4, 2) := dvX3_callsTo_0 (28, .iload 4, 2) (List.mem_of_getElem? (i := 17) rfl)
theorem dX3_callsTo_30 : decode cX3_callsTo 30 = .ok (.iaload, 1) := dvX3_callsTo_0 (30, .iaload, 1) (List.mem_of_getElem? (i := 18) rfl)
theorem dX3_callsTo_31 : decode cX3_callsTo 31 = .ok (.iload_n 1, 1) := dvX3_callsTo_0 (31, .iload_n 1, 1) (List.mem_of_getElem? (i := 19) rfl)
theorem dX3_callsTo_32 : decode cX3_callsTo 32 = .ok (.if_icmp .ne 6, 3) := dvX3_callsTo_0 (32, .if_icmp .ne 6, 3) (List.mem_of_getElem? (i := 20) rfl)
theorem dX3_callsTo_35 : decode cX3_callsTo 35 = .ok (.iinc 2 1, 3) := dvX3_callsTo_0 (35, .iinc 2 1, 3) (List.mem_of_getElem? (i := 21) rfl)
theorem dX3_callsTo_38 : decode cX3_callsTo 38 = .ok (.iinc 3 1, 3) := dvX3_callsTo_0 (38, .iinc 3 1, 3) (List.mem_of_getElem? (i := 22) rfl)
theorem dX3_callsTo_41 : decode cX3_callsTo 41 = .ok (.goto (-37), 3) := dvX3_callsTo_0 (41, .goto (-37), 3) (List.mem_of_getElem? (i := 23) rfl)
theorem dX3_callsTo_44 : decode cX3_callsTo 44 = .ok (.iload_n 2, 1) := dvX3_callsTo_0 (44, .iload_n 2, 1) (List.mem_of_getElem? (i := 24) rfl)
theorem dX3_callsTo_45 : decode cX3_callsTo 45 = .ok (.ireturn, 1) := dvX3_callsTo_0 (45, .ireturn, 1) (List.mem_of_getElem? (i := 25) rfl)
def dtX3_changeLines_0 : List (Nat × Instr × Nat) := [(0, .aload_n 0, 1), (1, .getfield 33, 3), (4, .iload_n 1, 1), (5, .iaload, 1), (6, .istore_n 3, 1), (7, .aload_n 0, 1), (8, .getfield 33, 3), (11, .iload_n 1, 1), (12, .iload_n 2, 1), (13, .iastore, 1), (14, .iload_n 3, 1), (15, .ireturn, 1)]
set_option maxRecDepth 20000 in
theorem dvX3_changeLines_0 : ∀ q ∈ dtX3_changeLines_0, decode cX3_changeLines q.1 = .ok q.2 := by decide +kernel
theorem dX3_changeLines_0 : decode cX3_changeLines 0 = .ok (.aload_n 0, 1) := dvX3_changeLines_0 (0, .aload_n 0, 1) (List.mem_of_getElem? (i := 0) rfl)
theorem dX3_changeLines_1 : decode cX3_changeLines 1 = .ok (.getfield 33, 3) := dvX3_changeLines_0 (1, .getfield 33, 3) (List.mem_of_getElem? (i := 1) rfl)
theorem dX3_changeLines_4 : decode cX3_changeLines 4 = .ok (.iload_n 1, 1) := dvX3_changeLines_0 (4, .iload_n 1, 1) (List.mem_of_getElem? (i := 2) rfl)
theorem dX3_changeLines_5 : decode cX3_changeLines 5 = .ok (.iaload, 1) := dvX3_changeLines_0 (5, .iaload, 1) (List.mem_of_getElem? (i := 3) rfl)
theorem dX3_changeLines_6 : decode cX3_changeLines 6 = .ok (.istore_n 3, 1) := dvX3_changeLines_0 (6, .istore_n 3, 1) (List.mem_of_getElem? (i := 4) rfl)
theorem dX3_changeLines_7 : decode cX3_changeLines 7 = .ok (.aload_n 0, 1) := dvX3_changeLines_0 (7, .aload_n 0, 1) (List.mem_of_getElem? (i := 5) rfl)
theorem dX3_changeLines_8 : decode cX3_changeLines 8 = .ok (.getfield 33, 3) := dvX3_changeLines_0 (8, .getfield 33, 3) (List.mem_of_getElem? (i := 6) rfl)
theorem dX3_changeLines_11 : decode cX3_changeLines 11 = .ok (.iload_n 1, 1) := dvX3_changeLines_0 (11, .iload_n 1, 1) (List.mem_of_getElem? (i := 7) rfl)
theorem dX3_changeLines_12 : decode cX3_changeLines 12 = .ok (.iload_n 2, 1) := dvX3_changeLines_0 (12, .iload_n 2, 1) (List.mem_of_getElem? (i := 8) rfl)
theorem dX3_changeLines_13 : decode cX3_changeLines 13 = .ok (.iastore, 1) := dvX3_changeLines_0 (13, .iastore, 1) (List.mem_of_getElem? (i := 9) rfl)
theorem dX3_changeLines_14 : decode cX3_changeLines 14 = .ok (.iload_n 3, 1) := dvX3_changeLines_0 (14, .iload_n 3, 1) (List.mem_of_getElem? (i := 10) rfl)
theorem dX3_changeLines_15 : decode cX3_changeLines 15 = .ok (.ireturn, 1) := dvX3_changeLines_0 (15, .ireturn, 1) (List.mem_of_getElem? (i := 11) rfl)
def dtX3_begin_0 : List (Nat × Instr × Nat) := [(0, .aload_n 0, 1), (1, .iload_n 2, 1), (2, .invokevirtual 46, 3), (5, .aload_n 0, 1), (6, .getfield 33, 3), (9, .iload_n 2, 1), (10, .iaload, 1), (11, .if_icmp .lt 5, 3), (14, .iconst (-1), 1), (15, .ireturn, 1), (16, .iload_n 1, 1), (17, .iconst 3, 1), (18, .irem, 1), (19, .istore_n 3, 1), (20, .iload_n 3, 1), (21, .iload_n 2, 1), (22, .if_icmp .ne 12, 3), (25, .aload_n 0, 1), (26, .iload_n 1, 1), (27, .iload_n 2, 1), (28, .iconst (-1), 1), (29, .iconst (-1), 1), (30, .invokevirtual 50, 3), (33, .ireturn, 1), (34, .aload_n 0, 1), (35, .iload_n 3, 1), (36, .iload_n 2, 1), (37, .invokevirtual 54, 3), (40, .istore 4, 2), (42, .iload 4, 2), (44, .iconst (-1), 1), (45, .if_icmp .eq 13, 3), (48, .aload_n 0, 1), (49, .iload_n 1, 1), (50, .iload_n 2, 1), (51, .iload 4, 2), (53, .iconst (-1), 1), (54, .invokevirtual 50, 3), (57, .ireturn, 1), (58, .iconst 3, 1), (59, .iload_n 3, 1), (60, .isub, 1), (61, .iload_n 2, 1), (62, .isub, 1), (63, .istore 5, 2), (65, .aload_n 0, 1), (66, .iload_n 3, 1), (67, .iload 5, 2), (69, .invokevirtual 54, 3), (72, .istore 6, 2)]
set_option maxRecDepth 20000 in
theorem dvX3_begin_0 : ∀ q ∈ dtX3_begin_0, decode cX3_begin q.1 = .ok q.2 := by decide +kernel
theorem dX3_begin_0 : decode cX3_begin 0 = .ok (.aload_n 0, 1) := dvX3_begin_0 (0, .aload_n 0, 1) (List.mem_of_getElem? (i := 0) rfl)
theorem dX3_begin_1 : decode cX3_begin 1 = .ok (.iload_n 2, 1) := dvX3_begin_0 (1, .iload_n 2, 1) (List.mem_of_getElem? (i := 1) rfl)
theorem dX3_begin_2 : decode cX3_begin 2 = .ok (.invokevirtual 46, 3) := dvX3_begin_0 (2, .invokevirtual 46, 3) (List.mem_of_getElem? (i := 2) rfl)
theorem dX3_begin_5 : decode cX3_begin 5 = .ok (.aload_n 0, 1) := dvX3_begin_0 (5, .aload_n 0, 1) (List.mem_of_getElem? (i := 3) rfl)
theorem dX3_begin_6 : decode cX3_begin 6 = .ok (.getfield 33, 3) := dvX3_begin_0 (6, .getfield 33, 3) (List.mem_of_getElem? (i := 4) rfl)
theorem dX3_begin_9 : decode cX3_begin 9 = .ok (.iload_n 2, 1) := dvX3_begin_0 (9, .iload_n 2, 1) (List.mem_of_getElem? (i := 5) rfl)
theorem dX3_begin_10 : decode cX3_begin 10 = .ok (.iaload, 1) := dvX3_begin_0 (10, .iaload, 1) (List.mem_of_getElem? (i := 6) rfl)
theorem dX3_begin_11 : decode cX3_begin 11 = .ok (.if_icmp .lt 5, 3) := dvX3_begin_0 (11, .if_icmp .lt 5, 3) (List.mem_of_getElem? (i := 7) rfl)
theorem dX3_begin_14 : decode cX3_begin 14 = .ok (.iconst (-1), 1) := dvX3_begin_0 (14, .iconst (-1), 1) (List.mem_of_getElem? (i := 8) rfl)
theorem dX3_begin_15 : decode cX3_begin 15 = .ok (.ireturn, 1) := dvX3_begin_0 (15, .ireturn, 1) (List.mem_of_getElem? (i := 9) rfl)
theorem dX3_begin_16 : decode cX3_begin 16 = .ok (.iload_n 1, 1) := dvX3_begin_0 (16, .iload_n 1, 1) (List.mem_of_getElem? (i := 10) rfl)
theorem dX3_begin_17 : decode cX3_begin 17 = .ok (.iconst 3, 1) := dvX3_begin_0 (17, .iconst 3, 1) (List.mem_of_getElem? (i := 11) rfl)
theorem dX3_begin_18 : decode cX3_begin 18 = .ok (.irem, 1) := dvX3_begin_0 (18, .irem, 1) (List.mem_of_getElem? (i := 12) rfl)
theorem dX3_begin_19 : decode cX3_begin 19 = .ok (.istore_n 3, 1) := dvX3_begin_0 (19, .istore_n 3, 1) (List.mem_of_getElem? (i := 13) rfl)
theorem dX3_begin_20 : decode cX3_begin 20 = .ok (.iload_n 3, 1) := dvX3_begin_0 (20, .iload_n 3, 1) (List.mem_of_getElem? (i := 14) rfl)
theorem dX3_begin_21 : decode cX3_begin 21 = .ok (.iload_n 2, 1) := dvX3_begin_0 (21, .iload_n 2, 1) (List.mem_of_getElem? (i := 15) rfl)
theorem dX3_begin_22 : decode cX3_begin 22 = .ok (.if_icmp .ne 12, 3) := dvX3_begin_0 (22, .if_icmp .ne 12, 3) (List.mem_of_getElem? (i := 16) rfl)
theorem dX3_begin_25 : decode cX3_begin 25 = .ok (.aload_n 0, 1) := dvX3_begin_0 (25, .aload_n 0, 1) (List.mem_of_getElem? (i := 17) rfl)
theorem dX3_begin_26 : decode cX3_begin 26 = .ok (.iload_n 1, 1) := dvX3_begin_0 (26, .iload_n 1, 1) (List.mem_of_getElem? (i := 18) rfl)
theorem dX3_begin_27 : decode cX3_begin 27 = .ok (.iload_n 2, 1) := dvX3_begin_0 (27, .iload_n 2, 1) (List.mem_of_getElem? (i := 19) rfl)
theorem dX3_begin_28 : decode cX3_begin 28 = .ok (.iconst (-1), 1) := dvX3_begin_0 (28, .iconst (-1), 1) (List.mem_of_getElem? (i := 20) rfl)
theorem dX3_begin_29 : decode cX3_begin 29 = .ok (.iconst (-1), 1) := dvX3_begin_0 (29, .iconst (-1), 1) (List.mem_of_getElem? (i := 21) rfl)
theorem dX3_begin_30 : decode cX3_begin 30 = .ok (.invokevirtual 50, 3) := dvX3_begin_0 (30, .invokevirtual 50, 3) (List.mem_of_getElem? (i := 22) rfl)
theorem dX3_begin_33 : decode cX3_begin 33 = .ok (.ireturn, 1) := dvX3_begin_0 (33, .ireturn, 1) (List.mem_of_getElem? (i := 23) rfl)
theorem dX3_begin_34 : decode cX3_begin 34 = .ok (.aload_n 0, 1) := dvX3_begin_0 (34, .aload_n 0, 1) (List.mem_of_getElem? (i := 24) rfl)
theorem dX3_begin_35 : decode cX3_begin 35 = .ok (.iload_n 3, 1) := dvX3_begin_0 (35, .iload_n 3, 1) (List.mem_of_getElem? (i := 25) rfl)
theorem dX3_begin_36 : decode cX3_begin 36 = .ok (.iload_n 2, 1) := dvX3_begin_0 (36, .iload_n 2, 1) (List.mem_of_getElem? (i := 26) rfl)
theorem dX3_begin_37 : decode cX3_begin 37 = .ok (.invokevirtual 54, 3) := dvX3_begin_0 (37, .invokevirtual 54, 3) (List.mem_of_getElem? (i := 27) rfl)
theorem dX3_begin_40 : decode cX3_begin 40 = .ok (.istore 4, 2) := dvX3_begin_0 (40, .istore 4, 2) (List.mem_of_getElem? (i := 28) rfl)
theorem dX3_begin_42 : decode cX3_begin 42 = .ok (.iload 4, 2) := dvX3_begin_0 (42, .iload 4, 2) (List.mem_of_getElem? (i := 29) rfl)
theorem dX3_begin_44 : decode cX3_begin 44 = .ok (.iconst (-1), 1) := dvX3_begin_0 (44, .iconst (-1), 1) (List.mem_of_getElem? (i := 30) rfl)
theorem dX3_begin_45 : decode cX3_begin 45 = .ok (.if_icmp .eq 13, 3) := dvX3_begin_0 (45, .if_icmp .eq 13, 3) (List.mem_of_getElem? (i := 31) rfl)
theorem dX3_begin_48 : decode cX3_begin 48 = .ok (.aload_n 0, 1) := dvX3_begin_0 (48, .aload_n 0, 1) (List.mem_of_getElem? (i := 32) rfl)
theorem dX3_begin_49 : decode cX3_begin 49 = .ok (.iload_n 1, 1) := dvX3_begin_0 (49, .iload_n 1, 1) (List.mem_of_getElem? (i := 33) rfl)
theorem dX3_begin_50 : decode cX3_begin 50 = .ok (.iload_n 2, 1) := dvX3_begin_0 (50, .iload_n 2, 1) (List.mem_of_getElem? (i := 34) rfl)
theorem dX3_begin_51 : decode cX3_begin 51 = .ok (.iload 4, 2) := dvX3_begin_0 (51, .iload 4, 2) (List.mem_of_getElem? (i := 35) rfl)
theorem dX3_begin_53 : decode cX3_begin 53 = .ok (.iconst (-1), 1) := dvX3_begin_0 (53, .iconst (-1), 1) (List.mem_of_getElem? (i := 36) rfl)
theorem dX3_begin_54 : decode cX3_begin 54 = .ok (.invokevirtual 50, 3) := dvX3_begin_0 (54, .invokevirtual 50, 3) (List.mem_of_getElem? (i := 37) rfl)
theorem dX3_begin_57 : decode cX3_begin 57 = .ok (.ireturn, 1) := dvX3_begin_0 (57, .ireturn, 1) (List.mem_of_getElem? (i := 38) rfl)
theorem dX3_begin_58 : decode cX3_begin 58 = .ok (.iconst 3, 1) := dvX3_begin_0 (58, .iconst 3, 1) (List.mem_of_getElem? (i := 39) rfl)
theorem dX3_begin_59 : decode cX3_begin 59 = .ok (.iload_n 3, 1) := dvX3_begin_0 (59, .iload_n 3, 1) (List.mem_of_getElem? (i := 40) rfl)
theorem dX3_begin_60 : decode cX3_begin 60 = .ok (.isub, 1) := dvX3_begin_0 (60, .isub, 1) (List.mem_of_getElem? (i := 41) rfl)
theorem dX3_begin_61 : decode cX3_begin 61 = .ok (.iload_n 2, 1) := dvX3_begin_0 (61, .iload_n 2, 1) (List.mem_of_getElem? (i := 42) rfl)
theorem dX3_begin_62 : decode cX3_begin 62 = .ok (.isub, 1) := dvX3_begin_0 (62, .isub, 1) (List.mem_of_getElem? (i := 43) rfl)
theorem dX3_begin_63 : decode cX3_begin 63 = .ok (.istore 5, 2) := dvX3_begin_0 (63, .istore 5, 2) (List.mem_of_getElem? (i := 44) rfl)
theorem dX3_begin_65 : decode cX3_begin 65 = .ok (.aload_n 0, 1) := dvX3_begin_0 (65, .aload_n 0, 1) (List.mem_of_getElem? (i := 45) rfl)
theorem dX3_begin_66 : decode cX3_begin 66 = .ok (.iload_n 3, 1) := dvX3_begin_0 (66, .iload_n 3, 1) (List.mem_of_getElem? (i := 46) rfl)
theorem dX3_begin_67 : decode cX3_begin 67 = .ok (.iload 5, 2) := dvX3_begin_0 (67, .iload 5, 2) (List.mem_of_getElem? (i := 47) rfl)
theorem dX3_begin_69 : decode cX3_begin 69 = .ok (.invokevirtual 54, 3) := dvX3_begin_0 (69, .invokevirtual 54, 3) (List.mem_of_getElem? (i := 48) rfl)
theorem dX3_begin_72 : decode cX3_begin 72 = .ok (.istore 6, 2) := dvX3_begin_0 (72, .istore 6, 2) (List.mem_of_getElem? (i := 49) rfl)
def dtX3_begin_1 : List (Nat × Instr × Nat) := [(74, .aload_n 0, 1), (75, .iload 5, 2), (77, .iload_n 2, 1), (78, .invokevirtual 54, 3), (81, .istore 7, 2), (83, .iload 6, 2), (85, .iconst (-1), 1), (86, .if_icmp .eq 9, 3), (89, .iload 7, 2), (91, .iconst (-1), 1), (92, .if_icmp .ne 5, 3), (95, .iconst (-1), 1), (96, .ireturn, 1), (97, .aload_n 0, 1), (98, .iload_n 1, 1), (99, .iload_n 2, 1), (100, .iload 6, 2), (102, .iload 7, 2), (104, .invokevirtual 50, 3), (107, .ireturn, 1)]
set_option maxRecDepth 20000 in
theorem dvX3_begin_1 : ∀ q ∈ dtX3_begin_1, decode cX3_begin q.1 = .ok q.2 := by decide +kernel
theorem dX3_begin_74 : decode cX3_begin 74 = .ok (.aload_n 0, 1) := dvX3_begin_1 (74, .aload_n 0, 1) (List.mem_of_getElem? (i := 0) rfl)
theorem dX3_begin_75 : decode cX3_begin 75 = .ok (.iload 5, 2) := dvX3_begin_1 (75, .iload 5, 2) (List.mem_of_getElem? (i := 1) rfl)
theorem dX3_begin_77 : decode cX3_begin 77 = .ok (.iload_n 2, 1) := dvX3_begin_1 (77, .iload_n 2, 1) (List.mem_of_getElem? (i := 2) rfl)
theorem dX3_begin_78 : decode cX3_begin 78 = .ok (.invokevirtual 54, 3) := dvX3_begin_1 (78, .invokevirtual 54, 3) (List.mem_of_getElem? (i := 3) rfl)
theorem dX3_begin_81 : decode cX3_begin 81 = .ok (.istore 7, 2) := dvX3_begin_1 (81, .istore 7, 2) (List.mem_of_getElem? (i := 4) rfl)
theorem dX3_begin_83 : decode cX3_begin 83 = .ok (.iload 6, 2) := dvX3_begin_1 (83, .iload 6, 2) (List.mem_of_getElem? (i := 5) rfl)
theorem dX3_begin_85 : decode cX3_begin 85 = .ok (.iconst (-1), 1) := dvX3_begin_1 (85, .iconst (-1), 1) (List.mem_of_getElem? (i := 6) rfl)
theorem dX3_begin_86 : decode cX3_begin 86 = .ok (.if_icmp .eq 9, 3) := dvX3_begin_1 (86, .if_icmp .eq 9, 3) (List.mem_of_getElem? (i := 7) rfl)
theorem dX3_begin_89 : decode cX3_begin 89 = .ok (.iload 7, 2) := dvX3_begin_1 (89, .iload 7, 2) (List.mem_of_getElem? (i := 8) rfl)
theorem dX3_begin_91 : decode cX3_begin 91 = .ok (.iconst (-1), 1) := dvX3_begin_1 (91, .iconst (-1), 1) (List.mem_of_getElem? (i := 9) rfl)
theorem dX3_begin_92 : decode cX3_begin 92 = .ok (.if_icmp .ne 5, 3) := dvX3_begin_1 (92, .if_icmp .ne 5, 3) (List.mem_of_getElem? (i := 10) rfl)
theorem dX3_begin_95 : decode cX3_begin 95 = .ok (.iconst (-1), 1) := dvX3_begin_1 (95, .iconst (-1), 1) (List.mem_of_getElem? (i := 11) rfl)
theorem dX3_begin_96 : decode cX3_begin 96 = .ok (.ireturn, 1) := dvX3_begin_1 (96, .ireturn, 1) (List.mem_of_getElem? (i := 12) rfl)
theorem dX3_begin_97 : decode cX3_begin 97 = .ok (.aload_n 0, 1) := dvX3_begin_1 (97, .aload_n 0, 1) (List.mem_of_getElem? (i := 13) rfl)
theorem dX3_begin_98 : decode cX3_begin 98 = .ok (.iload_n 1, 1) := dvX3_begin_1 (98, .iload_n 1, 1) (List.mem_of_getElem? (i := 14) rfl)
theorem dX3_begin_99 : decode cX3_begin 99 = .ok (.iload_n 2, 1) := dvX3_begin_1 (99, .iload_n 2, 1) (List.mem_of_getElem? (i := 15) rfl)
theorem dX3_begin_100 : decode cX3_begin 100 = .ok (.iload 6, 2) := dvX3_begin_1 (100, .iload 6, 2) (List.mem_of_getElem? (i := 16) rfl)
theorem dX3_begin_102 : decode cX3_begin 102 = .ok (.iload 7, 2) := dvX3_begin_1 (102, .iload 7, 2) (List.mem_of_getElem? (i := 17) rfl)
theorem dX3_begin_104 : decode cX3_begin 104 = .ok (.invokevirtual 50, 3) := dvX3_begin_1 (104, .invokevirtual 50, 3) (List.mem_of_getElem? (i := 18) rfl)
theorem dX3_begin_107 : decode cX3_begin 107 = .ok (.ireturn, 1) := dvX3_begin_1 (107, .ireturn, 1) (List.mem_of_getElem? (i := 19) rfl)
def dtX3_end_0 : List (Nat × Instr × Nat) := [(0, .aload_n 0, 1), (1, .getfield 27, 3), (4, .aload_n 0, 1), (5, .getfield 9, 3), (8, .iload_n 1, 1), (9, .iaload, 1), (10, .iconst (-1), 1), (11, .iastore, 1), (12, .aload_n 0, 1), (13, .aload_n 0, 1), (14, .getfield 21, 3), (17, .iload_n 1, 1), (18, .iaload, 1), (19, .iconst (-1), 1), (20, .invokevirtual 58, 3), (23, .aload_n 0, 1), (24, .aload_n 0, 1), (25, .getfield 24, 3), (28, .iload_n 1, 1), (29, .iaload, 1), (30, .iconst (-1), 1), (31, .invokevirtual 58, 3), (34, .return_, 1)]
set_option maxRecDepth 20000 in
theorem dvX3_end_0 : ∀ q ∈ dtX3_end_0, decode cX3_end q.1 = .ok q.2 := by decide +kernel
theorem dX3_end_0 : decode cX3_end 0 = .ok (.aload_n 0, 1) := dvX3_end_0 (0, .aload_n 0, 1) (List.mem_of_getElem? (i := 0) rfl)
theorem dX3_end_1 : decode cX3_end 1 = .ok (.getfield 27, 3) := dvX3_end_0 (1, .getfield 27, 3) (List.mem_of_getElem? (i := 1) rfl)
theorem dX3_end_4 : decode cX3_end 4 = .ok (.aload_n 0, 1) := dvX3_end_0 (4, .aload_n 0, 1) (List.mem_of_getElem? (i := 2) rfl)
theorem dX3_end_5 : decode cX3_end 5 = .ok (.getfield 9, 3) := dvX3_end_0 (5, .getfield 9, 3) (List.mem_of_getElem? (i := 3) rfl)
theorem dX3_end_8 : decode cX3_end 8 = .ok (.iload_n 1, 1) := dvX3_end_0 (8, .iload_n 1, 1) (List.mem_of_getElem? (i := 4) rfl)
theorem dX3_end_9 : decode cX3_end 9 = .ok (.iaload, 1) := dvX3_end_0 (9, .iaload, 1) (List.mem_of_getElem? (i := 5) rfl)
theorem dX3_end_10 : decode cX3_end 10 = .ok (.iconst (-1), 1) := dvX3_end_0 (10, .iconst (-1), 1) (List.mem_of_getElem? (i := 6) rfl)
theorem dX3_end_11 : decode cX3_end 11 = .ok (.iastore, 1) := dvX3_end_0 (11, .iastore, 1) (List.mem_of_getElem? (i := 7) rfl)
theorem dX3_end_12 : decode cX3_end 12 = .ok (.aload_n 0, 1) := dvX3_end_0 (12, .aload_n 0, 1) (List.mem_of_getElem? (i := 8) rfl)
theorem dX3_end_13 : decode cX3_end 13 = .ok (.aload_n 0, 1) := dvX3_end_0 (13, .aload_n 0, 1) (List.mem_of_getElem? (i := 9) rfl)
theorem dX3_end_14 : decode cX3_end 14 = .ok (.getfield 21, 3) := dvX3_end_0 (14, .getfield 21, 3) (List.mem_of_getElem? (i := 10) rfl)
theorem dX3_end_17 : decode cX3_end 17 = .ok (.iload_n 1, 1) := dvX3_end_0 (17, .iload_n 1, 1) (List.mem_of_getElem? (i := 11) rfl)
theorem dX3_end_18 : decode cX3_end 18 = .ok (.iaload, 1) := dvX3_end_0 (18, .iaload, 1) (List.mem_of_getElem? (i := 12) rfl)
theorem dX3_end_19 : decode cX3_end 19 = .ok (.iconst (-1), 1) := dvX3_end_0 (19, .iconst (-1), 1) (List.mem_of_getElem? (i := 13) rfl)
theorem dX3_end_20 : decode cX3_end 20 = .ok (.invokevirtual 58, 3) := dvX3_end_0 (20, .invokevirtual 58, 3) (List.mem_of_getElem? (i := 14) rfl)
theorem dX3_end_23 : decode cX3_end 23 = .ok (.aload_n 0, 1) := dvX3_end_0 (23, .aload_n 0, 1) (List.mem_of_getElem? (i := 15) rfl)
theorem dX3_end_24 : decode cX3_end 24 = .ok (.aload_n 0, 1) := dvX3_end_0 (24, .aload_n 0, 1) (List.mem_of_getElem? (i := 16) rfl)
theorem dX3_end_25 : decode cX3_end 25 = .ok (.getfield 24, 3) := dvX3_end_0 (25, .getfield 24, 3) (List.mem_of_getElem? (i := 17) rfl)
theorem dX3_end_28 : decode cX3_end 28 = .ok (.iload_n 1, 1) := dvX3_end_0 (28, .iload_n 1, 1) (List.mem_of_getElem? (i := 18) rfl)
theorem dX3_end_29 : decode cX3_end 29 = .ok (.iaload, 1) := dvX3_end_0 (29, .iaload, 1) (List.mem_of_getElem? (i := 19) rfl)
theorem dX3_end_30 : decode cX3_end 30 = .ok (.iconst (-1), 1) := dvX3_end_0 (30, .iconst (-1), 1) (List.mem_of_getElem? (i := 20) rfl)
theorem dX3_end_31 : decode cX3_end 31 = .ok (.invokevirtual 58, 3) := dvX3_end_0 (31, .invokevirtual 58, 3) (List.mem_of_getElem? (i := 21) rfl)
theorem dX3_end_34 : decode cX3_end 34 = .ok (.return_, 1) := dvX3_end_0 (34, .return_, 1) (List.mem_of_getElem? (i := 22) rfl)
def dtX3_connect_0 : List (Nat × Instr × Nat) := [(0, .aload_n 0, 1), (1, .getfield 42, 3), (4, .istore 5, 2), (6, .aload_n 0, 1), (7, .dup, 1), (8, .getfield 42, 3), (11, .iconst 1, 1), (12, .iadd, 1), (13, .putfield 42, 3), (16, .aload_n 0, 1), (17, .getfield 9, 3), (20, .iload 5, 2), (22, .iload_n 1, 1), (23, .iastore, 1), (24, .aload_n 0, 1), (25, .getfield 15, 3), (28, .iload 5, 2), (30, .iload_n 2, 1), (31, .iastore, 1), (32, .aload_n 0, 1), (33, .getfield 18, 3), (36, .iload 5, 2), (38, .iconst (-1), 1), (39, .iastore, 1), (40, .aload_n 0, 1), (41, .getfield 21, 3), (44, .iload 5, 2), (46, .iload_n 3, 1), (47, .iastore, 1), (48, .aload_n 0, 1), (49, .getfield 24, 3), (52, .iload 5, 2), (54, .iload 4, 2), (56, .iastore, 1), (57, .aload_n 0, 1), (58, .getfield 27, 3), (61, .iload_n 1, 1), (62, .iload 5, 2), (64, .iastore, 1), (65, .aload_n 0, 1), (66, .iload_n 3, 1), (67, .iload 5, 2), (69, .invokevirtual 58, 3), (72, .aload_n 0, 1), (73, .iload 4, 2), (75, .iload 5, 2), (77, .invokevirtual 58, 3), (80, .iload 5, 2), (82, .ireturn, 1)]
set_option maxRecDepth 20000 in
theorem dvX3_connect_0 : ∀ q ∈ dtX3_connect_0, decode cX3_connect q.1 = .ok q.2 := by decide +kernel
theorem dX3_connect_0 : decode cX3_connect 0 = .ok (.aload_n 0, 1) := dvX3_connect_0 (0, .aload_n 0, 1) (List.mem_of_getElem? (i := 0) rfl)
theorem dX3_connect_1 : decode cX3_connect 1 = .ok (.getfield 42, 3) := dvX3_connect_0 (1, .getfield 42, 3) (List.mem_of_getElem? (i := 1) rfl)
theorem dX3_connect_4 : decode cX3_connect 4 = .ok (.istore 5, 2) := dvX3_connect_0 (4, .istore 5, 2) (List.mem_of_getElem? (i := 2) rfl)
theorem dX3_connect_6 : decode cX3_connect 6 = .ok (.aload_n 0, 1) := dvX3_connect_0 (6, .aload_n 0, 1) (List.mem_of_getElem? (i := 3) rfl)
theorem dX3_connect_7 : decode cX3_connect 7 = .ok (.dup, 1) := dvX3_connect_0 (7, .dup, 1) (List.mem_of_getElem? (i := 4) rfl)
theorem dX3_connect_8 : decode cX3_connect 8 = .ok (.getfield 42, 3) := dvX3_connect_0 (8, .getfield 42, 3) (List.mem_of_getElem? (i := 5) rfl)
theorem dX3_connect_11 : decode cX3_connect 11 = .ok (.iconst 1, 1) := dvX3_connect_0 (11, .iconst 1, 1) (List.mem_of_getElem? (i := 6) rfl)
theorem dX3_connect_12 : decode cX3_connect 12 = .ok (.iadd, 1) := dvX3_connect_0 (12, .iadd, 1) (List.mem_of_getElem? (i := 7) rfl)
theorem dX3_connect_13 : decode cX3_connect 13 = .ok (.putfield 42, 3) := dvX3_connect_0 (13, .putfield 42, 3) (List.mem_of_getElem? (i := 8) rfl)
theorem dX3_connect_16 : decode cX3_connect 16 = .ok (.aload_n 0, 1) := dvX3_connect_0 (16, .aload_n 0, 1) (List.mem_of_getElem? (i := 9) rfl)
theorem dX3_connect_17 : decode cX3_connect 17 = .ok (.getfield 9, 3) := dvX3_connect_0 (17, .getfield 9, 3) (List.mem_of_getElem? (i := 10) rfl)
theorem dX3_connect_20 : decode cX3_connect 20 = .ok (.iload 5, 2) := dvX3_connect_0 (20, .iload 5, 2) (List.mem_of_getElem? (i := 11) rfl)
theorem dX3_connect_22 : decode cX3_connect 22 = .ok (.iload_n 1, 1) := dvX3_connect_0 (22, .iload_n 1, 1) (List.mem_of_getElem? (i := 12) rfl)
theorem dX3_connect_23 : decode cX3_connect 23 = .ok (.iastore, 1) := dvX3_connect_0 (23, .iastore, 1) (List.mem_of_getElem? (i := 13) rfl)
theorem dX3_connect_24 : decode cX3_connect 24 = .ok (.aload_n 0, 1) := dvX3_connect_0 (24, .aload_n 0, 1) (List.mem_of_getElem? (i := 14) rfl)
theorem dX3_connect_25 : decode cX3_connect 25 = .ok (.getfield 15, 3) := dvX3_connect_0 (25, .getfield 15, 3) (List.mem_of_getElem? (i := 15) rfl)
theorem dX3_connect_28 : decode cX3_connect 28 = .ok (.iload 5, 2) := dvX3_connect_0 (28, .iload 5, 2) (List.mem_of_getElem? (i := 16) rfl)
theorem dX3_connect_30 : decode cX3_connect 30 = .ok (.iload_n 2, 1) := dvX3_connect_0 (30, .iload_n 2, 1) (List.mem_of_getElem? (i := 17) rfl)
theorem dX3_connect_31 : decode cX3_connect 31 = .ok (.iastore, 1) := dvX3_connect_0 (31, .iastore, 1) (List.mem_of_getElem? (i := 18) rfl)
theorem dX3_connect_32 : decode cX3_connect 32 = .ok (.aload_n 0, 1) := dvX3_connect_0 (32, .aload_n 0, 1) (List.mem_of_getElem? (i := 19) rfl)
theorem dX3_connect_33 : decode cX3_connect 33 = .ok (.getfield 18, 3) := dvX3_connect_0 (33, .getfield 18, 3) (List.mem_of_getElem? (i := 20) rfl)
theorem dX3_connect_36 : decode cX3_connect 36 = .ok (.iload 5, 2) := dvX3_connect_0 (36, .iload 5, 2) (List.mem_of_getElem? (i := 21) rfl)
theorem dX3_connect_38 : decode cX3_connect 38 = .ok (.iconst (-1), 1) := dvX3_connect_0 (38, .iconst (-1), 1) (List.mem_of_getElem? (i := 22) rfl)
theorem dX3_connect_39 : decode cX3_connect 39 = .ok (.iastore, 1) := dvX3_connect_0 (39, .iastore, 1) (List.mem_of_getElem? (i := 23) rfl)
theorem dX3_connect_40 : decode cX3_connect 40 = .ok (.aload_n 0, 1) := dvX3_connect_0 (40, .aload_n 0, 1) (List.mem_of_getElem? (i := 24) rfl)
theorem dX3_connect_41 : decode cX3_connect 41 = .ok (.getfield 21, 3) := dvX3_connect_0 (41, .getfield 21, 3) (List.mem_of_getElem? (i := 25) rfl)
theorem dX3_connect_44 : decode cX3_connect 44 = .ok (.iload 5, 2) := dvX3_connect_0 (44, .iload 5, 2) (List.mem_of_getElem? (i := 26) rfl)
theorem dX3_connect_46 : decode cX3_connect 46 = .ok (.iload_n 3, 1) := dvX3_connect_0 (46, .iload_n 3, 1) (List.mem_of_getElem? (i := 27) rfl)
theorem dX3_connect_47 : decode cX3_connect 47 = .ok (.iastore, 1) := dvX3_connect_0 (47, .iastore, 1) (List.mem_of_getElem? (i := 28) rfl)
theorem dX3_connect_48 : decode cX3_connect 48 = .ok (.aload_n 0, 1) := dvX3_connect_0 (48, .aload_n 0, 1) (List.mem_of_getElem? (i := 29) rfl)
theorem dX3_connect_49 : decode cX3_connect 49 = .ok (.getfield 24, 3) := dvX3_connect_0 (49, .getfield 24, 3) (List.mem_of_getElem? (i := 30) rfl)
theorem dX3_connect_52 : decode cX3_connect 52 = .ok (.iload 5, 2) := dvX3_connect_0 (52, .iload 5, 2) (List.mem_of_getElem? (i := 31) rfl)
theorem dX3_connect_54 : decode cX3_connect 54 = .ok (.iload 4, 2) := dvX3_connect_0 (54, .iload 4, 2) (List.mem_of_getElem? (i := 32) rfl)
theorem dX3_connect_56 : decode cX3_connect 56 = .ok (.iastore, 1) := dvX3_connect_0 (56, .iastore, 1) (List.mem_of_getElem? (i := 33) rfl)
theorem dX3_connect_57 : decode cX3_connect 57 = .ok (.aload_n 0, 1) := dvX3_connect_0 (57, .aload_n 0, 1) (List.mem_of_getElem? (i := 34) rfl)
theorem dX3_connect_58 : decode cX3_connect 58 = .ok (.getfield 27, 3) := dvX3_connect_0 (58, .getfield 27, 3) (List.mem_of_getElem? (i := 35) rfl)
theorem dX3_connect_61 : decode cX3_connect 61 = .ok (.iload_n 1, 1) := dvX3_connect_0 (61, .iload_n 1, 1) (List.mem_of_getElem? (i := 36) rfl)
theorem dX3_connect_62 : decode cX3_connect 62 = .ok (.iload 5, 2) := dvX3_connect_0 (62, .iload 5, 2) (List.mem_of_getElem? (i := 37) rfl)
theorem dX3_connect_64 : decode cX3_connect 64 = .ok (.iastore, 1) := dvX3_connect_0 (64, .iastore, 1) (List.mem_of_getElem? (i := 38) rfl)
theorem dX3_connect_65 : decode cX3_connect 65 = .ok (.aload_n 0, 1) := dvX3_connect_0 (65, .aload_n 0, 1) (List.mem_of_getElem? (i := 39) rfl)
theorem dX3_connect_66 : decode cX3_connect 66 = .ok (.iload_n 3, 1) := dvX3_connect_0 (66, .iload_n 3, 1) (List.mem_of_getElem? (i := 40) rfl)
theorem dX3_connect_67 : decode cX3_connect 67 = .ok (.iload 5, 2) := dvX3_connect_0 (67, .iload 5, 2) (List.mem_of_getElem? (i := 41) rfl)
theorem dX3_connect_69 : decode cX3_connect 69 = .ok (.invokevirtual 58, 3) := dvX3_connect_0 (69, .invokevirtual 58, 3) (List.mem_of_getElem? (i := 42) rfl)
theorem dX3_connect_72 : decode cX3_connect 72 = .ok (.aload_n 0, 1) := dvX3_connect_0 (72, .aload_n 0, 1) (List.mem_of_getElem? (i := 43) rfl)
theorem dX3_connect_73 : decode cX3_connect 73 = .ok (.iload 4, 2) := dvX3_connect_0 (73, .iload 4, 2) (List.mem_of_getElem? (i := 44) rfl)
theorem dX3_connect_75 : decode cX3_connect 75 = .ok (.iload 5, 2) := dvX3_connect_0 (75, .iload 5, 2) (List.mem_of_getElem? (i := 45) rfl)
theorem dX3_connect_77 : decode cX3_connect 77 = .ok (.invokevirtual 58, 3) := dvX3_connect_0 (77, .invokevirtual 58, 3) (List.mem_of_getElem? (i := 46) rfl)
theorem dX3_connect_80 : decode cX3_connect 80 = .ok (.iload 5, 2) := dvX3_connect_0 (80, .iload 5, 2) (List.mem_of_getElem? (i := 47) rfl)
theorem dX3_connect_82 : decode cX3_connect 82 = .ok (.ireturn, 1) := dvX3_connect_0 (82, .ireturn, 1) (List.mem_of_getElem? (i := 48) rfl)
def dtX3_occupy_0 : List (Nat × Instr × Nat) := [(0, .iload_n 1, 1), (1, .iconst (-1), 1), (2, .if_icmp .eq 10, 3), (5, .aload_n 0, 1), (6, .getfield 30, 3), (9, .iload_n 1, 1), (10, .iload_n 2, 1), (11, .iastore, 1), (12, .return_, 1)]
set_option maxRecDepth 20000 in
theorem dvX3_occupy_0 : ∀ q ∈ dtX3_occupy_0, decode cX3_occupy q.1 = .ok q.2 := by decide +kernel
theorem dX3_occupy_0 : decode cX3_occupy 0 = .ok (.iload_n 1, 1) := dvX3_occupy_0 (0, .iload_n 1, 1) (List.mem_of_getElem? (i := 0) rfl)
theorem dX3_occupy_1 : decode cX3_occupy 1 = .ok (.iconst (-1), 1) := dvX3_occupy_0 (1, .iconst (-1), 1) (List.mem_of_getElem? (i := 1) rfl)
theorem dX3_occupy_2 : decode cX3_occupy 2 = .ok (.if_icmp .eq 10, 3) := dvX3_occupy_0 (2, .if_icmp .eq 10, 3) (List.mem_of_getElem? (i := 2) rfl)
theorem dX3_occupy_5 : decode cX3_occupy 5 = .ok (.aload_n 0, 1) := dvX3_occupy_0 (5, .aload_n 0, 1) (List.mem_of_getElem? (i := 3) rfl)
theorem dX3_occupy_6 : decode cX3_occupy 6 = .ok (.getfield 30, 3) := dvX3_occupy_0 (6, .getfield 30, 3) (List.mem_of_getElem? (i := 4) rfl)
theorem dX3_occupy_9 : decode cX3_occupy 9 = .ok (.iload_n 1, 1) := dvX3_occupy_0 (9, .iload_n 1, 1) (List.mem_of_getElem? (i := 5) rfl)
theorem dX3_occupy_10 : decode cX3_occupy 10 = .ok (.iload_n 2, 1) := dvX3_occupy_0 (10, .iload_n 2, 1) (List.mem_of_getElem? (i := 6) rfl)
theorem dX3_occupy_11 : decode cX3_occupy 11 = .ok (.iastore, 1) := dvX3_occupy_0 (11, .iastore, 1) (List.mem_of_getElem? (i := 7) rfl)
theorem dX3_occupy_12 : decode cX3_occupy 12 = .ok (.return_, 1) := dvX3_occupy_0 (12, .return_, 1) (List.mem_of_getElem? (i := 8) rfl)
def dtX3_freeTrunk_0 : List (Nat × Instr × Nat) := [(0, .iconst 0, 1), (1, .istore_n 3, 1), (2, .iload_n 3, 1), (3, .iconst 2, 1), (4, .if_icmp .ge 31, 3), (7, .iload_n 1, 1), (8, .iload_n 2, 1), (9, .iload_n 3, 1), (10, .invokestatic 62, 3), (13, .istore 4, 2), (15, .aload_n 0, 1), (16, .getfield 30, 3), (19, .iload 4, 2), (21, .iaload, 1), (22, .iconst (-1), 1), (23, .if_icmp .ne 6, 3), (26, .iload 4, 2), (28, .ireturn, 1), (29, .iinc 3 1, 3), (32, .goto (-30), 3), (35, .iconst (-1), 1), (36, .ireturn, 1)]
set_option maxRecDepth 20000 in
theorem dvX3_freeTrunk_0 : ∀ q ∈ dtX3_freeTrunk_0, decode cX3_freeTrunk q.1 = .ok q.2 := by decide +kernel
theorem dX3_freeTrunk_0 : decode cX3_freeTrunk 0 = .ok (.iconst 0, 1) := dvX3_freeTrunk_0 (0, .iconst 0, 1) (List.mem_of_getElem? (i := 0) rfl)
theorem dX3_freeTrunk_1 : decode cX3_freeTrunk 1 = .ok (.istore_n 3, 1) := dvX3_freeTrunk_0 (1, .istore_n 3, 1) (List.mem_of_getElem? (i := 1) rfl)
theorem dX3_freeTrunk_2 : decode cX3_freeTrunk 2 = .ok (.iload_n 3, 1) := dvX3_freeTrunk_0 (2, .iload_n 3, 1) (List.mem_of_getElem? (i := 2) rfl)
theorem dX3_freeTrunk_3 : decode cX3_freeTrunk 3 = .ok (.iconst 2, 1) := dvX3_freeTrunk_0 (3, .iconst 2, 1) (List.mem_of_getElem? (i := 3) rfl)
theorem dX3_freeTrunk_4 : decode cX3_freeTrunk 4 = .ok (.if_icmp .ge 31, 3) := dvX3_freeTrunk_0 (4, .if_icmp .ge 31, 3) (List.mem_of_getElem? (i := 4) rfl)
theorem dX3_freeTrunk_7 : decode cX3_freeTrunk 7 = .ok (.iload_n 1, 1) := dvX3_freeTrunk_0 (7, .iload_n 1, 1) (List.mem_of_getElem? (i := 5) rfl)
theorem dX3_freeTrunk_8 : decode cX3_freeTrunk 8 = .ok (.iload_n 2, 1) := dvX3_freeTrunk_0 (8, .iload_n 2, 1) (List.mem_of_getElem? (i := 6) rfl)
theorem dX3_freeTrunk_9 : decode cX3_freeTrunk 9 = .ok (.iload_n 3, 1) := dvX3_freeTrunk_0 (9, .iload_n 3, 1) (List.mem_of_getElem? (i := 7) rfl)
theorem dX3_freeTrunk_10 : decode cX3_freeTrunk 10 = .ok (.invokestatic 62, 3) := dvX3_freeTrunk_0 (10, .invokestatic 62, 3) (List.mem_of_getElem? (i := 8) rfl)
theorem dX3_freeTrunk_13 : decode cX3_freeTrunk 13 = .ok (.istore 4, 2) := dvX3_freeTrunk_0 (13, .istore 4, 2) (List.mem_of_getElem? (i := 9) rfl)
theorem dX3_freeTrunk_15 : decode cX3_freeTrunk 15 = .ok (.aload_n 0, 1) := dvX3_freeTrunk_0 (15, .aload_n 0, 1) (List.mem_of_getElem? (i := 10) rfl)
theorem dX3_freeTrunk_16 : decode cX3_freeTrunk 16 = .ok (.getfield 30, 3) := dvX3_freeTrunk_0 (16, .getfield 30, 3) (List.mem_of_getElem? (i := 11) rfl)
theorem dX3_freeTrunk_19 : decode cX3_freeTrunk 19 = .ok (.iload 4, 2) := dvX3_freeTrunk_0 (19, .iload 4, 2) (List.mem_of_getElem? (i := 12) rfl)
theorem dX3_freeTrunk_21 : decode cX3_freeTrunk 21 = .ok (.iaload, 1) := dvX3_freeTrunk_0 (21, .iaload, 1) (List.mem_of_getElem? (i := 13) rfl)
theorem dX3_freeTrunk_22 : decode cX3_freeTrunk 22 = .ok (.iconst (-1), 1) := dvX3_freeTrunk_0 (22, .iconst (-1), 1) (List.mem_of_getElem? (i := 14) rfl)
theorem dX3_freeTrunk_23 : decode cX3_freeTrunk 23 = .ok (.if_icmp .ne 6, 3) := dvX3_freeTrunk_0 (23, .if_icmp .ne 6, 3) (List.mem_of_getElem? (i := 15) rfl)
theorem dX3_freeTrunk_26 : decode cX3_freeTrunk 26 = .ok (.iload 4, 2) := dvX3_freeTrunk_0 (26, .iload 4, 2) (List.mem_of_getElem? (i := 16) rfl)
theorem dX3_freeTrunk_28 : decode cX3_freeTrunk 28 = .ok (.ireturn, 1) := dvX3_freeTrunk_0 (28, .ireturn, 1) (List.mem_of_getElem? (i := 17) rfl)
theorem dX3_freeTrunk_29 : decode cX3_freeTrunk 29 = .ok (.iinc 3 1, 3) := dvX3_freeTrunk_0 (29, .iinc 3 1, 3) (List.mem_of_getElem? (i := 18) rfl)
theorem dX3_freeTrunk_32 : decode cX3_freeTrunk 32 = .ok (.goto (-30), 3) := dvX3_freeTrunk_0 (32, .goto (-30), 3) (List.mem_of_getElem? (i := 19) rfl)
theorem dX3_freeTrunk_35 : decode cX3_freeTrunk 35 = .ok (.iconst (-1), 1) := dvX3_freeTrunk_0 (35, .iconst (-1), 1) (List.mem_of_getElem? (i := 20) rfl)
theorem dX3_freeTrunk_36 : decode cX3_freeTrunk 36 = .ok (.ireturn, 1) := dvX3_freeTrunk_0 (36, .ireturn, 1) (List.mem_of_getElem? (i := 21) rfl)
def dtJ7_fill_53178_0 : List (Nat × Instr × Nat) := [(0, .iconst 0, 1), (1, .istore_n 2, 1), (2, .aload_n 0, 1), (3, .arraylength, 1), (4, .istore_n 3, 1), (5, .iload_n 2, 1), (6, .iload_n 3, 1), (7, .if_icmp .ge 13, 3), (10, .aload_n 0, 1), (11, .iload_n 2, 1), (12, .iload_n 1, 1), (13, .iastore, 1), (14, .iinc 2 1, 3), (17, .goto (-12), 3), (20, .return_, 1)]
set_option maxRecDepth 20000 in
theorem dvJ7_fill_53178_0 : ∀ q ∈ dtJ7_fill_53178_0, decode cJ7_fill_53178 q.1 = .ok q.2 := by decide +kernel
theorem dJ7_fill_53178_0 : decode cJ7_fill_53178 0 = .ok (.iconst 0, 1) := dvJ7_fill_53178_0 (0, .iconst 0, 1) (List.mem_of_getElem? (i := 0) rfl)
theorem dJ7_fill_53178_1 : decode cJ7_fill_53178 1 = .ok (.istore_n 2, 1) := dvJ7_fill_53178_0 (1, .istore_n 2, 1) (List.mem_of_getElem? (i := 1) rfl)
theorem dJ7_fill_53178_2 : decode cJ7_fill_53178 2 = .ok (.aload_n 0, 1) := dvJ7_fill_53178_0 (2, .aload_n 0, 1) (List.mem_of_getElem? (i := 2) rfl)
theorem dJ7_fill_53178_3 : decode cJ7_fill_53178 3 = .ok (.arraylength, 1) := dvJ7_fill_53178_0 (3, .arraylength, 1) (List.mem_of_getElem? (i := 3) rfl)
theorem dJ7_fill_53178_4 : decode cJ7_fill_53178 4 = .ok (.istore_n 3, 1) := dvJ7_fill_53178_0 (4, .istore_n 3, 1) (List.mem_of_getElem? (i := 4) rfl)
theorem dJ7_fill_53178_5 : decode cJ7_fill_53178 5 = .ok (.iload_n 2, 1) := dvJ7_fill_53178_0 (5, .iload_n 2, 1) (List.mem_of_getElem? (i := 5) rfl)
theorem dJ7_fill_53178_6 : decode cJ7_fill_53178 6 = .ok (.iload_n 3, 1) := dvJ7_fill_53178_0 (6, .iload_n 3, 1) (List.mem_of_getElem? (i := 6) rfl)
theorem dJ7_fill_53178_7 : decode cJ7_fill_53178 7 = .ok (.if_icmp .ge 13, 3) := dvJ7_fill_53178_0 (7, .if_icmp .ge 13, 3) (List.mem_of_getElem? (i := 7) rfl)
theorem dJ7_fill_53178_10 : decode cJ7_fill_53178 10 = .ok (.aload_n 0, 1) := dvJ7_fill_53178_0 (10, .aload_n 0, 1) (List.mem_of_getElem? (i := 8) rfl)
theorem dJ7_fill_53178_11 : decode cJ7_fill_53178 11 = .ok (.iload_n 2, 1) := dvJ7_fill_53178_0 (11, .iload_n 2, 1) (List.mem_of_getElem? (i := 9) rfl)
theorem dJ7_fill_53178_12 : decode cJ7_fill_53178 12 = .ok (.iload_n 1, 1) := dvJ7_fill_53178_0 (12, .iload_n 1, 1) (List.mem_of_getElem? (i := 10) rfl)
theorem dJ7_fill_53178_13 : decode cJ7_fill_53178 13 = .ok (.iastore, 1) := dvJ7_fill_53178_0 (13, .iastore, 1) (List.mem_of_getElem? (i := 11) rfl)
theorem dJ7_fill_53178_14 : decode cJ7_fill_53178 14 = .ok (.iinc 2 1, 3) := dvJ7_fill_53178_0 (14, .iinc 2 1, 3) (List.mem_of_getElem? (i := 12) rfl)
theorem dJ7_fill_53178_17 : decode cJ7_fill_53178 17 = .ok (.goto (-12), 3) := dvJ7_fill_53178_0 (17, .goto (-12), 3) (List.mem_of_getElem? (i := 13) rfl)
theorem dJ7_fill_53178_20 : decode cJ7_fill_53178 20 = .ok (.return_, 1) := dvJ7_fill_53178_0 (20, .return_, 1) (List.mem_of_getElem? (i := 14) rfl)
end
section
/-! ===== BEGIN a callee that returns with no new cell, or throws with mc new cells (turned from the kit's vx_ rows) ===== -/
section TYX
def ty_Q (Qc : Array Value → State → Outcome → State → Prop) (XC : String → State → State → Prop) (mc ms : Nat) (free : Addr → Prop) : Array Value → State → Outcome → State → Prop := fun a st o t =>
  (Qc a st o t ∧ ∃ L, FrameEnd st o t L 0 0 ∧ ∀ q ∈ L, free q.base) ∨ ∃ q, o = .threw q ∧ vx_T XC st q t mc ms free
def ty_Met (l : Launch) (y : MethodName) (ws : List Cond) (rm : Room) (Pc : Array Value → State → Prop) (Qc : Array Value → State → Outcome → State → Prop) (XC : String → State → State → Prop) (mc ms : Nat) (free : Addr → Prop) : Prop :=
  MetFree l y (headSpec ws rm) Pc (fun _ _ _ _ _ => True) (ty_Q Qc XC mc ms free)
section Payer
variable {l : Launch} {R : Room} {p : Program} {e : Env} {below : List Frame} {s : State} {sargs : Array Value} {y : MethodName} {len W9 : Nat}
theorem ty_back {ws : List Cond} {rm : Room} {Pc : Array Value → State → Prop} {Qc : Array Value → State → Outcome → State → Prop} {XC : String → State → State → Prop} {mc ms : Nat} {free : Addr → Prop} {bytes : ByteArray} {maxL : Nat} {ret : Option FieldType}
    (hM : ty_Met l y ws rm Pc Qc XC mc ms free) (hblind : FrameBlind Pc) (hrc : rm.cells = mc) (hrs : rm.slots = ms)
    (hframes : rm.frames + 1 ≤ R.frames) (hlocals : W9 + (maxL + 11) + rm.locals ≤ R.locals)
    (hws : ∀ w ∈ ws, ∀ a' U, s.WarmedH U.vm → w.before a' U = true) (hcode : Cond.code y bytes maxL ret ∈ ws) (hinit : ∀ a' U, s.WarmedH U.vm → (Cond.initialized y.cls).before a' U = true) :
    vx_Back l R p e below s sargs y len W9 (PreOf R mc ms Pc) (PostOf Qc 0 0 free) (vx_Post XC mc ms free) := by
  intro m meth c A g ig mk a X hg hsize hdg hW hn hp
  have h1 : (headSpec ws rm).pre.before a A.U = true := atoms_intro fun w hw => hws w hw _ _ X.warmed
  have h2 : (Cond.code y bytes maxL ret).before a A.U = true := hws _ hcode _ _ X.warmed
  have h3 : (Cond.initialized y.cls).before a A.U = true := hinit _ _ X.warmed
  have h4 : A.cells + (headSpec ws rm).room.cells ≤ R.cells := by rw [show (headSpec ws rm).room.cells = mc from hrc]; exact hp.1
  have h5 : A.slots + (headSpec ws rm).room.slots ≤ R.slots := by rw [show (headSpec ws rm).room.slots = ms from hrs]; exact hp.2.1
  have hPc : Pc a (A.U.calling g mk a) := hblind _ _ _ _ hp.2.2
  obtain ⟨U, Ls, c0, s0⟩ := A
  dsimp only [Pt.U, Pt.locs, Pt.cells, Pt.slots] at h1 h2 h3 h4 h5 X hn hPc ⊢
  obtain ⟨methY, cY, hmY, hcY, -, hlY, -, -, -, -⟩ := Cond.code_spec hn h2
  obtain ⟨kY, hkY, -⟩ := className_of_methodNamed hn
  have hinitY : kY.init = .initialized := Cond.initialized_spec (findClass_of_methodNamed hn) hkY h3
  have h : At U g.method c below := by rw [hg]; exact X.here
  have hlocals9 : W9 + (maxL + 11) + (headSpec ws rm).room.locals ≤ R.locals := hlocals
  have happ : (headSpec ws rm).appliesLoose y e.platform (U.calling g mk a) = true :=
    Spec.appliesLoose_calling (g := g) h hdg hn hkY hinitY
      (X.room_calling (g := g) (R' := (headSpec ws rm).room) hsize hmY hcY hframes (by rw [hlY]; omega) h4 h5) h1
  obtain ⟨mid, hmid⟩ := h.above
  have hfr : (U.setTop g).frames = (.java g :: mid) ++ below := by rw [State.frames_setTop' g h.top, hmid]; rfl
  obtain ⟨o, s₂, hsteps, -, hend, hq⟩ := Steps.callFree hM p X.admits X.cas X.clock (acts := []) hfr happ hPc trivial
  have hq' : ty_Q Qc XC mc ms free a (U.calling g mk a) o s₂ := hq
  rw [State.frames_setTop' g h.top] at hend
  obtain ⟨g₀, hg0⟩ := Option.isSome_iff_exists.mp h.top
  obtain ⟨r, hr⟩ := State.topJava?_eq_some.mp hg0
  have hr' : (({ U with heap := s₂.heap, slotsUsed := s₂.slotsUsed } : State).setVm s₂.vm).frames = .java g₀ :: r := hr
  rcases hq' with ⟨hqc, L, hfe, hL⟩ | ⟨q, rfl, E, ce, L, hx, hce, hcv, hcl, hW₂, hsm, hL⟩
  · obtain ⟨⟨v, rfl⟩, hW₂, e2, q2, q3, q4, q5, q6⟩ := id hfe
    have e3 : s₂ = ({ (U.calling g mk a).setFrames s₂.frames with heap := s₂.heap, slotsUsed := s₂.slotsUsed } : State).setVm s₂.vm := by
      have : s₂ = ({ s₂ with vm := (U.calling g mk a).vm } : State).setVm s₂.vm := rfl
      rw [e2] at this
      exact this
    obtain ⟨c₂, i₂, len₂, hc₂, hd₂, hf₂⟩ := hend
    have hW' : U.WarmedH s₂.vm := hW₂
    have hcc : c₂ = c := by
      have h1 : s₂.code? g.method = U.code? g.method := by
        rw [State.code?_eq, State.code?_eq, hW'.alike.method?]
      exact Option.some.inj (hc₂.symm.trans (h1.trans h.code))
    subst hcc
    have hlen : len₂ = len := by rw [hdg] at hd₂; cases hd₂; rfl
    subst hlen
    have hs₂ : s₂ = (({ U with heap := s₂.heap, slotsUsed := s₂.slotsUsed } : State).setVm s₂.vm).setTop { g with pc := g.pc + len₂, stack := v.toList ++ g.stack } := by
      refine e3.trans ?_
      rw [hf₂, State.calling_eq h.top, State.setFrames_setFrames, State.setTop_of_frames _ hr', hr]
      rfl
    have hsame : U.sameButNew ({ U with heap := s₂.heap, slotsUsed := s₂.slotsUsed } : State) L 0 0 := by
      refine ⟨?_, q2, q3, q4, q5, q6⟩
      obtain ⟨t, ht, -⟩ := State.frames_cons hr
      show ({ U with heap := s₂.heap, slotsUsed := s₂.slotsUsed } : State) = { U.setFrames U.frames with heap := s₂.heap, slotsUsed := s₂.slotsUsed }
      rw [State.setFrames_self ht]
    subst hg
    refine Or.inl ⟨v, ⟨(({ U with heap := s₂.heap, slotsUsed := s₂.slotsUsed } : State).setVm s₂.vm), Ls ++ L, c0 + 0, s0 + 0⟩,
      ⟨X.admits, X.cas, X.clock, X.frames, X.room, X.hears, X.method, X.code, (X.here.setHeapUsed s₂.heap s₂.slotsUsed).setVm hW'.alike, X.tail, State.WarmedH.trans X.warmed hW', X.limits, X.bytes, X.same.trans (hsame.setVm s.vm)⟩,
      ⟨g, mk, s₂, L, rfl, rfl, hqc, rfl, hL, rfl, rfl⟩, ?_⟩
    show Steps p.tables e below _ ((({ U with heap := s₂.heap, slotsUsed := s₂.slotsUsed } : State).setVm s₂.vm).setTop { g with pc := g.pc + len₂, stack := v.toList ++ g.stack })
    rw [← hs₂]
    exact hsteps
  · obtain ⟨e2, q2, q3, q4, q5, q6⟩ := id hsm
    have e3 : s₂ = ({ (U.calling g mk a).setFrames s₂.frames with heap := s₂.heap, slotsUsed := s₂.slotsUsed } : State).setVm s₂.vm := by
      have : s₂ = ({ s₂ with vm := (U.calling g mk a).vm } : State).setVm s₂.vm := rfl
      rw [e2] at this
      exact this
    have hf₂ : s₂.frames = .throwing q :: .java g :: U.frames.tail := hend
    have hW' : U.WarmedH s₂.vm := hW₂
    have hs₂ : s₂ = ((({ U with heap := s₂.heap, slotsUsed := s₂.slotsUsed } : State).setVm s₂.vm).setTop g).pushFrame (.throwing q) := by
      refine e3.trans ?_
      rw [hf₂, State.calling_eq h.top, State.setFrames_setFrames, State.pushFrame, State.frames_setTop _ hr', State.setTop_of_frames _ hr', State.setFrames_setFrames, hr]
      rfl
    have hsame : U.sameButNew ({ U with heap := s₂.heap, slotsUsed := s₂.slotsUsed } : State) L mc ms := by
      refine ⟨?_, q2, q3, q4, q5, q6⟩
      obtain ⟨t, ht, -⟩ := State.frames_cons hr
      show ({ U with heap := s₂.heap, slotsUsed := s₂.slotsUsed } : State) = { U.setFrames U.frames with heap := s₂.heap, slotsUsed := s₂.slotsUsed }
      rw [State.setFrames_self ht]
    subst hg
    refine Or.inr ⟨q, ⟨(({ U with heap := s₂.heap, slotsUsed := s₂.slotsUsed } : State).setVm s₂.vm), Ls ++ L, c0 + mc, s0 + ms⟩,
      ⟨X.admits, X.cas, X.clock, X.frames, X.room, X.hears, X.method, X.code, (X.here.setHeapUsed s₂.heap s₂.slotsUsed).setVm hW'.alike, X.tail, State.WarmedH.trans X.warmed hW', X.limits, X.bytes, X.same.trans (hsame.setVm s.vm)⟩,
      ⟨g, mk, s₂, L, E, ce, rfl, rfl, hx, hce, hcv, hcl, rfl, hL, rfl, rfl⟩, ?_⟩
    show Steps p.tables e below _ (((({ U with heap := s₂.heap, slotsUsed := s₂.slotsUsed } : State).setVm s₂.vm).setTop g).pushFrame (.throwing q))
    rw [← hs₂]
    exact hsteps
end Payer
def ty_Run (p : Program) (l : Launch) (e : Env) (R : Room) (s : State) (m : MethodId) (args : Array Value) (below : List Frame) (meth : Method) (c : Code) (H : Heap) (locs : List Loc) (cells slots mc ms : Nat) (g : JFrame) (rest : List Value) (Qa : State → Outcome → State → Prop) (XC : String → State → State → Prop) (free : Addr → Prop) : Prop :=
  ∀ T : State, T.heap = H → Stand p l e R s m args below meth c T locs cells slots →
    (∃ (v : Option Value) (st₀ t T' : State) (L : List Loc), st₀.heap = H ∧ Stand p l e R s m args below meth c T' (locs ++ L) (cells + 0) (slots + 0) ∧ (∀ q ∈ L, free q.base) ∧ T'.heap = t.heap ∧ T'.vm = t.vm ∧ Qa st₀ (.returned v) t ∧
      Goes p e below T g T' { g with pc := g.pc + 3, stack := v.toList ++ rest }) ∨
    (∃ (q : Addr) (st₀ t T' : State) (L : List Loc) (E : String) (ce : Cell), st₀.heap = H ∧ Stand p l e R s m args below meth c T' (locs ++ L) (cells + mc) (slots + ms) ∧ (∀ z ∈ L, free z.base) ∧ T'.heap = t.heap ∧ T'.vm = t.vm ∧ XC E st₀ t ∧ t.heap[q]? = some ce ∧ ce.vm = .none ∧ s.vm.findClass E = some ce.cls ∧
      Steps p.tables e below (T.setTop g) ((T'.setTop { g with stack := rest }).pushFrame (.throwing q)))
section Runs
variable {p : Program} {l : Launch} {e : Env} {R : Room} {s : State} {m : MethodId} {args : Array Value} {below : List Frame} {meth : Method} {c : Code} {H : Heap} {locs : List Loc} {cells slots : Nat}
variable {y : MethodName} {bytes cc : ByteArray} {maxL nL mc ms n index : Nat} {ret : Option FieldType} {ws : List Cond} {rm : Room} {Pc : Array Value → State → Prop} {Qc : Array Value → State → Outcome → State → Prop} {XC : String → State → State → Prop} {free : Addr → Prop} {Ts : List Cond} {own C : String} {b : Addr} {As rest : List Value} {g : JFrame}
theorem ty_callBack (cb : CallB R s args own index y bytes maxL ret ws rm mc ms n) (hM : ty_Met l y ws rm Pc Qc XC mc ms free) (hbl : FrameBlind Pc) : vx_Back l R p e below s args y 3 8 (PreOf R mc ms Pc) (PostOf Qc 0 0 free) (vx_Post XC mc ms free) := by
  obtain ⟨hrc, hrs, hfr, hlo, hws, hcw, -, hini, -⟩ := cb
  exact ty_back (bytes := bytes) (maxL := maxL) (ret := ret) hM hbl hrc hrs hfr hlo hws hcw (fun a' U hW => word_at hW (Or.inl (by first | rfl | simp [Cond.onTables, Cond.keeps, Cond.steady])) hini)
theorem ty_runV (S : CallFix p m c cc nL s args Ts own) (hM : ty_Met l y ws rm Pc Qc XC mc ms free) (cw : CallW R s args own C index y bytes maxL ret ws rm mc ms n) (hp : PreV s H C b Pc As)
    (hg : g.method = m) (hn : As.length = n) (hsize : g.locals.size = nL) (hstack : g.stack = As.reverse ++ .ref b :: rest) (hW : 2 * g.monitorRoom + (rest.map fun v => v.category).sum ≤ 8) (hdg : decode cc g.pc = .ok (.invokevirtual index, 3)) (hf : cells + mc ≤ R.cells ∧ slots + ms ≤ R.slots) :
    ty_Run p l e R s m args below meth c H locs cells slots mc ms g rest (Qc (Value.ref b :: As).toArray) XC free := by
  have hK : vx_Back l R p e below s args y 3 8 (PreOf R mc ms Pc) (PostOf Qc 0 0 free) (vx_Post XC mc ms free) := ty_callBack cw.1 hM hp.1
  obtain ⟨⟨-, -, -, -, -, -, hcode, -, hy, hlen, hl⟩, hin, hse⟩ := cw
  obtain ⟨hx, hb, hml, ho, -⟩ := S
  obtain ⟨-, ⟨cellB, hcB, hoB, hclB⟩, hPc⟩ := hp
  intro T hT X
  rcases vx_callV X hx (C := C) (bytes := bytes) (maxL := maxL) (ret := ret) ho hl hin hse hcode hy hK (by rw [hT]; exact hcB) hoB hclB hg (hsize.trans hml.symm) (argsL := As) (rest := rest) (fun sig h => hn.trans (hlen sig h)) hstack hW (by rw [hb]; exact hdg)
    (fun vm₁ hW₁ => ⟨hf.1, hf.2, hPc (T.setVm vm₁) hT hW₁⟩) with ⟨v, vm₁, ⟨U', l2, c2, s2⟩, hW₁, X', ⟨g', mk, t, L, e1, e2, hq, h1, hL, h2, h3⟩, st⟩ | ⟨q, vm₁, ⟨U', l2, c2, s2⟩, hW₁, X', ⟨g', mk, t, L, E, ce, e1, e2, hq, hce, hcv, hcl, h1, hL, h2, h3⟩, st⟩
  · dsimp only [Pt.U, Pt.locs, Pt.cells, Pt.slots] at X' e1 e2 h1 h2 h3 st
    subst h1; subst h2; subst h3
    exact Or.inl ⟨v, (T.setVm vm₁).calling g' mk (Value.ref b :: As).toArray, t, U', L, hT, X', hL, e1, e2, hq, st⟩
  · dsimp only [Pt.U, Pt.locs, Pt.cells, Pt.slots] at X' e1 e2 h1 h2 h3 st hcl
    subst h1; subst h2; subst h3
    exact Or.inr ⟨q, (T.setVm vm₁).calling g' mk (Value.ref b :: As).toArray, t, U', L, E, ce, hT, X', hL, e1, e2, hq, hce, hcv, vx_cls hW₁ hcl, st⟩
theorem ty_runS (S : CallFix p m c cc nL s args Ts own) (hM : ty_Met l y ws rm Pc Qc XC mc ms free) (cw : CallB R s args own index y bytes maxL ret ws rm mc ms n ∧ (Cond.static y).before args s = true) (hp : PreS s H Pc As)
    (hg : g.method = m) (hn : As.length = n) (hsize : g.locals.size = nL) (hstack : g.stack = As.reverse ++ rest) (hW : 2 * g.monitorRoom + (rest.map fun v => v.category).sum ≤ 8) (hdg : decode cc g.pc = .ok (.invokestatic index, 3)) (hf : cells + mc ≤ R.cells ∧ slots + ms ≤ R.slots) :
    ty_Run p l e R s m args below meth c H locs cells slots mc ms g rest (Qc As.toArray) XC free := by
  have hK : vx_Back l R p e below s args y 3 8 (PreOf R mc ms Pc) (PostOf Qc 0 0 free) (vx_Post XC mc ms free) := ty_callBack cw.1 hM hp.1
  obtain ⟨⟨-, -, -, -, -, -, hcode, hini, hy, hlen, hl⟩, hstt⟩ := cw
  obtain ⟨hx, hb, hml, ho, -⟩ := S
  intro T hT X
  rcases vx_callS X hx (bytes := bytes) (maxL := maxL) (ret := ret) ho hl hstt hini hcode hy hK hg (hsize.trans hml.symm) (argsL := As) (rest := rest) (fun sig h => hn.trans (hlen sig h)) hstack hW (by rw [hb]; exact hdg)
    (fun vm₁ hW₁ => ⟨hf.1, hf.2, hp.2 (T.setVm vm₁) hT hW₁⟩) with ⟨v, vm₁, ⟨U', l2, c2, s2⟩, hW₁, X', ⟨g', mk, t, L, e1, e2, hq, h1, hL, h2, h3⟩, st⟩ | ⟨q, vm₁, ⟨U', l2, c2, s2⟩, hW₁, X', ⟨g', mk, t, L, E, ce, e1, e2, hq, hce, hcv, hcl, h1, hL, h2, h3⟩, st⟩
  · dsimp only [Pt.U, Pt.locs, Pt.cells, Pt.slots] at X' e1 e2 h1 h2 h3 st
    subst h1; subst h2; subst h3
    exact Or.inl ⟨v, (T.setVm vm₁).calling g' mk As.toArray, t, U', L, hT, X', hL, e1, e2, hq, st⟩
  · dsimp only [Pt.U, Pt.locs, Pt.cells, Pt.slots] at X' e1 e2 h1 h2 h3 st hcl
    subst h1; subst h2; subst h3
    exact Or.inr ⟨q, (T.setVm vm₁).calling g' mk As.toArray, t, U', L, E, ce, hT, X', hL, e1, e2, hq, hce, hcv, vx_cls hW₁ hcl, st⟩
end Runs
theorem ty_ofW {l : Launch} {y : MethodName} {ws ws' : List Cond} {rm : Room} {Pc : Array Value → State → Prop} {Qc : Array Value → State → Outcome → State → Prop} {XC : String → State → State → Prop} {mc ms : Nat} {free : Addr → Prop} {cc : ByteArray} {maxL : Nat} {ret : Option FieldType}
    (hy : plainName y.cls = true) (hw : ws = Cond.code y cc maxL ret :: ws')
    (body : ∀ p e s m args below meth c s₁, BodyLoose p l y (headSpec ws rm) cc maxL ret e s m args below meth c s₁ → c.maxLocals = maxL → (∀ x ∈ c.exceptionTable.toList, False) → Pc args s →
      W p l e (headSpec ws rm).room s m args below meth c s.heap [] 0 0 (fun t => ∃ o, t.status = .running ∧ Ended t below o ∧ ty_Q Qc XC mc ms free args s o t) (entryFrame m args maxL)) : ty_Met l y ws rm Pc Qc XC mc ms free := by
  refine MetFree.of_bodyS (code := cc) (maxLocals := maxL) (ret := ret) hy ?_ ?_
  · intro args s m h hn
    obtain ⟨meth, c, h1, h2, h3, h4, h5, h6, -, -⟩ := Cond.code_spec hn (atoms_spec (ws := ws) h _ (by rw [hw]; exact List.mem_cons_self))
    exact ⟨meth, c, h1, h2, h3, h4, h5, h6⟩
  · intro p e s m args below meth c s₁ B hml hP _
    have hh0 : s₁.heap = s.heap := by rw [B.state]; rfl
    have ht : ∀ x ∈ c.exceptionTable.toList, False := by
      obtain ⟨meth9, c9, h1, h2, -, -, -, -, h7, -⟩ := Cond.code_spec B.named (atoms_spec (ws := ws) B.pre _ (by rw [hw]; exact List.mem_cons_self))
      cases Option.some.inj (h1.symm.trans B.method)
      cases Option.some.inj (h2.symm.trans (Stand.of_body B).code)
      intro x hx
      rw [Array.isEmpty_iff.mp h7] at hx
      cases hx
    obtain ⟨t, a1, o, b1, b2, b3⟩ := body p e s m args below meth c s₁ B hml ht hP s₁ hh0 (Stand.of_body B)
    exact ⟨t, o, a1, b1, b2, b3⟩
/-- what a body that may throw owes at its end -/
def ty_MQ (below : List Frame) (Qc : Array Value → State → Outcome → State → Prop) (XC : String → State → State → Prop) (a : Array Value) (s : State) (mc ms : Nat) (free : Addr → Prop) : State → Prop := fun t =>
  ∃ o, t.status = .running ∧ Ended t below o ∧ ty_Q Qc XC mc ms free a s o t
end TYX
/-! ===== END ===== -/
/-! ===== BEGIN states as values: arrays by the number of their cell, int fields by a number of their own ===== -/
abbrev tyS : Type := (Nat → Nat → Int32) × (Nat → Int32)
def sA (σ : tyS) (a : Nat) (f : Nat → Int32) : tyS := (fun j => if j = a then f else σ.1 j, σ.2)
def sV (σ : tyS) (v : Nat) (x : Int32) : tyS := (σ.1, fun j => if j = v then x else σ.2 j)
def sW (σ : tyS) (a : Nat) (i x : Int32) : tyS := sA σ a (upd (σ.1 a) i.toNatClampNeg x)
def inb (i : Int32) (n : Nat) : Bool := decide (¬ (i < 0 ∨ n ≤ i.toNatClampNeg))
def chk {α : Type} (b : Bool) (x : Option α) : Option α := match b with
  | true => x
  | false => none
def stp {α : Type} (v : tyS) (k : tyS → Option α) : Option α := k v
def bR {α β : Type} (x : Option α) (k : α → Option β) : Option β := match x with
  | none => none
  | some a => k a
def bN {β : Type} (x : Option (Int32 × tyS)) (k : Int32 → tyS → Option β) : Option β := match x with
  | none => none
  | some q => k q.1 q.2
abbrev tyX : Type := Nat × Int32 × tyS
def bX (x : Option tyX) (k : Int32 → tyS → Option tyX) : Option tyX := match x with
  | none => none
  | some (0, r, σ) => k r σ
  | some (c + 1, _, σ) => some (c + 1, 0, σ)
theorem chk_some {α : Type} {i : Int32} {n : Nat} {x : Option α} {y : α} (h : chk (inb i n) x = some y) : vp_in i n ∧ x = some y := by
  unfold chk inb at h
  by_cases q : ¬ (i < 0 ∨ n ≤ i.toNatClampNeg)
  · rw [decide_eq_true q] at h
    exact ⟨q, h⟩
  · rw [decide_eq_false q] at h
    cases h
theorem chkb_some {α : Type} {b : Bool} {x : Option α} {y : α} (h : chk b x = some y) : b = true ∧ x = some y := by
  cases b
  · cases h
  · exact ⟨rfl, h⟩
theorem stp_some {α : Type} {v : tyS} {k : tyS → Option α} {y : α} (h : stp v k = some y) : ∃ σ : tyS, σ = v ∧ k σ = some y := ⟨v, rfl, h⟩
theorem bR_some {α β : Type} {x : Option α} {k : α → Option β} {y : β} (h : bR x k = some y) : ∃ a, x = some a ∧ k a = some y := by
  cases x with
  | none => cases h
  | some a => exact ⟨a, rfl, h⟩
theorem bN_some {β : Type} {x : Option (Int32 × tyS)} {k : Int32 → tyS → Option β} {y : β} (h : bN x k = some y) : ∃ a σ, x = some (a, σ) ∧ k a σ = some y := by
  cases x with
  | none => cases h
  | some a => exact ⟨a.1, a.2, rfl, h⟩
theorem bX_some {x : Option tyX} {k : Int32 → tyS → Option tyX} {y : tyX} (h : bX x k = some y) : (∃ c r σ, x = some (c + 1, r, σ) ∧ y = (c + 1, 0, σ)) ∨ ∃ r σ, x = some (0, r, σ) ∧ k r σ = some y := by
  match x, h with
  | none, h => cases h
  | some (0, r, σ), h => exact Or.inr ⟨r, σ, rfl, h⟩
  | some (c + 1, r, σ), h => exact Or.inl ⟨c, r, σ, rfl, (Option.some.inj h).symm⟩
theorem iteT {α : Type} {c : Prop} {d : Decidable c} {A B : Option α} {x : Option α} (h : @ite _ c d A B = x) (hc : c) : A = x := by rw [if_pos hc] at h; exact h
theorem iteF {α : Type} {c : Prop} {d : Decidable c} {A B : Option α} {x : Option α} (h : @ite _ c d A B = x) (hc : ¬ c) : B = x := by rw [if_neg hc] at h; exact h
/-! ===== contracts over one world that is a function of the state ===== -/
def gPre (D : va_G) (w : tyS → va_W) (tys : List (ClassId × FieldType)) (sz : Nat) (σ : tyS) (U : State) : Prop := U.heap.size = sz ∧ va_P D vwCl (w σ) U.heap ∧ va_K D vwCl tys U ∧ va_D (fun _ => True) (w σ)
def gB (D : va_G) (w : tyS → va_W) (tys : List (ClassId × FieldType)) (A : Nat → Prop) (σ : tyS) (t : State) : Prop := va_P D vwCl (w σ) t.heap ∧ va_K D vwCl tys t ∧ va_D A (w σ)
abbrev gQi (D : va_G) (w : tyS → va_W) (tys : List (ClassId × FieldType)) (A : Nat → Prop) (r : Int32) (τ : tyS) : Array Value → State → Outcome → State → Prop := va_Qi (fun (r' : Int32) (u : tyS) => r' = r ∧ u = τ) (gB D w tys A) A
abbrev gQv (D : va_G) (w : tyS → va_W) (tys : List (ClassId × FieldType)) (A : Nat → Prop) (τ : tyS) : Array Value → State → Outcome → State → Prop := va_Qv (fun (u : tyS) => u = τ) (gB D w tys A) A
abbrev gMi (l : Launch) (y : MethodName) (ws : List Cond) (rm : Room) (D : va_G) (w : tyS → va_W) (tys : List (ClassId × FieldType)) (av : List Value) (sz : Nat) (σ : tyS) (r : Int32) (τ : tyS) : Prop :=
  Met l y ws rm (va_Pc av (gPre D w tys sz σ)) (gQi D w tys (va_A (w σ) sz) r τ) 0 0 (va_A (w σ) sz)
abbrev gMv (l : Launch) (y : MethodName) (ws : List Cond) (rm : Room) (D : va_G) (w : tyS → va_W) (tys : List (ClassId × FieldType)) (av : List Value) (sz : Nat) (σ : tyS) (τ : tyS) : Prop :=
  Met l y ws rm (va_Pc av (gPre D w tys sz σ)) (gQv D w tys (va_A (w σ) sz) τ) 0 0 (va_A (w σ) sz)
theorem gPre_blind {D : va_G} {w : tyS → va_W} {tys : List (ClassId × FieldType)} {av : List Value} {sz : Nat} {σ : tyS} : FrameBlind (va_Pc av (gPre D w tys sz σ)) := fun a U g mk h => ⟨h.1, h.2.1, h.2.2.1, va_K.moved (u := U) (U := U.calling g mk a) (Vm.Alike.refl U.vm) h.2.2.2.1, h.2.2.2.2⟩
theorem gFree {A : Nat → Prop} {ws : va_W} {H0 H : Heap} {locs : List Loc} (hD : va_D A ws) (hS : va_S A H0 H locs) (hA : ∀ q, H0.size ≤ q → A q) : ∀ q, va_A ws H.size q → A q := by
  intro q h
  rcases h with ⟨k, e, h⟩ | h
  · exact hD.2 k (q, e) h
  · exact hA q (Nat.le_trans hS.1 h)
/-! ===== what a throw needs besides its world ===== -/
def gE1 : String := "java/lang/IllegalArgumentException"
def gE2 : String := "java/lang/IllegalStateException"
def gE3 : String := "java/lang/IndexOutOfBoundsException"
def exn : Nat → String
  | 0 => ""
  | 1 => "java/lang/IllegalArgumentException"
  | 2 => "java/lang/IllegalStateException"
  | _ => "java/lang/IndexOutOfBoundsException"
def gNms : List String := ["java/lang/RuntimeException", "java/lang/Exception"]
def gNw : List Cond := [.castable (exn 1) (exn 1), .castable (exn 2) (exn 2), .castable (exn 3) (exn 3), .declares (Bundle.initS "java/lang/RuntimeException"), .declares (Bundle.initS "java/lang/Exception"), .declares (Bundle.initS Bundle.tN)]
theorem gNw_warm {s U : State} (hW : s.WarmedH U.vm) (h : ∀ w ∈ gNw, va_Nw w s) : ∀ w ∈ gNw, va_Nw w U := by
  intro w hw
  have h1 := h w hw
  simp only [gNw, List.mem_cons, List.not_mem_nil, or_false] at hw
  rcases hw with rfl | rfl | rfl | rfl | rfl | rfl
  · exact va_Nw.warmC hW h1
  · exact va_Nw.warmC hW h1
  · exact va_Nw.warmC hW h1
  · exact va_Nw.warmD hW h1
  · exact va_Nw.warmD hW h1
  · exact va_Nw.warmD hW h1
/-- the two statics that a Throwable's constructor reads, the words that the tables alone decide, the texts -/
def gOK (gStr : List (String × Nat × String)) (A : Nat → Prop) (U : State) (H : Heap) : Prop :=
  vx_Zq Bundle.tN "UNASSIGNED_STACK" Bundle.steD A U H ∧ vx_Zq Bundle.tN "SUPPRESSED_SENTINEL" Bundle.listD A U H ∧ (∀ w ∈ gNw, va_Nw w U) ∧ ∀ q ∈ gStr, ∃ sa : Nat, vk_R q.1 q.2.1 q.2.2 sa U
theorem gOK.go {gStr : List (String × Nat × String)} {A B : Nat → Prop} {s U : State} {H : Heap} {locs : List Loc} (h : gOK gStr A s s.heap) (hS : va_S A s.heap H locs) (hU : U.heap = H) (hW : s.WarmedH U.vm) (hAB : ∀ q, B q → A q) : gOK gStr B U U.heap := by
  obtain ⟨h1, h2, h3, h4⟩ := h
  rw [hU]
  exact ⟨vx_Zq.moved hW.alike ((h1.kept hS.2.1).narrow hAB), vx_Zq.moved hW.alike ((h2.kept hS.2.1).narrow hAB), gNw_warm hW h3, fun q hq => by obtain ⟨sa, h⟩ := h4 q hq; exact ⟨sa, vk_R.warm hW h⟩⟩
def gPreX (gStr : List (String × Nat × String)) (D : va_G) (w : tyS → va_W) (tys : List (ClassId × FieldType)) (sz : Nat) (σ : tyS) (U : State) : Prop := gPre D w tys sz σ U ∧ gOK gStr (va_A (w σ) sz) U U.heap
abbrev gXC (D : va_G) (w : tyS → va_W) (tys : List (ClassId × FieldType)) (A : Nat → Prop) (res : tyX) : String → State → State → Prop := vx_X (fun _ : tyS => True) (fun E (u : tyS) t => (∃ k, res = (k + 1, 0, u) ∧ E = exn (k + 1)) ∧ gB D w tys A u t) A
abbrev gQXi (D : va_G) (w : tyS → va_W) (tys : List (ClassId × FieldType)) (A : Nat → Prop) (res : tyX) : Array Value → State → Outcome → State → Prop := va_Qi (fun (r' : Int32) (u : tyS) => res = (0, r', u)) (gB D w tys A) A
abbrev gQXv (D : va_G) (w : tyS → va_W) (tys : List (ClassId × FieldType)) (A : Nat → Prop) (res : tyX) : Array Value → State → Outcome → State → Prop := va_Qv (fun (u : tyS) => res = (0, 0, u)) (gB D w tys A) A
abbrev gXi (gStr : List (String × Nat × String)) (l : Launch) (y : MethodName) (ws : List Cond) (rm : Room) (D : va_G) (w : tyS → va_W) (tys : List (ClassId × FieldType)) (av : List Value) (sz : Nat) (σ : tyS) (res : tyX) : Prop :=
  ty_Met l y ws rm (va_Pc av (gPreX gStr D w tys sz σ)) (gQXi D w tys (va_A (w σ) sz) res) (gXC D w tys (va_A (w σ) sz) res) 1 6 (va_A (w σ) sz)
abbrev gXv (gStr : List (String × Nat × String)) (l : Launch) (y : MethodName) (ws : List Cond) (rm : Room) (D : va_G) (w : tyS → va_W) (tys : List (ClassId × FieldType)) (av : List Value) (sz : Nat) (σ : tyS) (res : tyX) : Prop :=
  ty_Met l y ws rm (va_Pc av (gPreX gStr D w tys sz σ)) (gQXv D w tys (va_A (w σ) sz) res) (gXC D w tys (va_A (w σ) sz) res) 1 6 (va_A (w σ) sz)
theorem gPreX_blind {gStr : List (String × Nat × String)} {D : va_G} {w : tyS → va_W} {tys : List (ClassId × FieldType)} {av : List Value} {sz : Nat} {σ : tyS} : FrameBlind (va_Pc av (gPreX gStr D w tys sz σ)) := by
  intro a U g mk h
  refine ⟨h.1, (gPre_blind a U g mk ⟨h.1, h.2.1⟩).2, ?_⟩
  obtain ⟨h1, h2, h3, h4⟩ := h.2.2
  exact ⟨vx_Zq.moved (u := U) (Vm.Alike.refl U.vm) h1, vx_Zq.moved (u := U) (Vm.Alike.refl U.vm) h2, fun w hw => va_Nw.same (by simp only [gNw, List.mem_cons, List.not_mem_nil, or_false] at hw; rcases hw with rfl | rfl | rfl | rfl | rfl | rfl <;> rfl) (u := U) rfl (h3 w hw), fun q hq => by obtain ⟨sa, h⟩ := h4 q hq; exact ⟨sa, vk_R.same (u := U) rfl h⟩⟩
section GC
variable {p : Program} {l : Launch} {e : Env} {R : Room} {s : State} {m : MethodId} {args : Array Value} {below : List Frame} {meth : Method} {c : Code} {H : Heap} {locs : List Loc} {Q Q2 : State → Prop}
variable {y : MethodName} {bytes cc : ByteArray} {maxL nL n index : Nat} {ret : Option FieldType} {ws : List Cond} {rm : Room} {Ts : List Cond} {own C : String} {b : Addr} {As rest st0 : List Value} {pc : Nat} {ls : Array Slot} {D : va_G} {w : tyS → va_W} {tys : List (ClassId × FieldType)} {A : Nat → Prop} {σ τ : tyS} {r : Int32} {res : tyX} {gStr : List (String × Nat × String)}
theorem W.mono2 {cells slots : Nat} {g : JFrame} (k : W p l e R s m args below meth c H locs cells slots Q g) (h : ∀ t, Q t → Q2 t) : W p l e R s m args below meth c H locs cells slots Q2 g := fun T hT X => by
  obtain ⟨t, a, b⟩ := k T hT X
  exact ⟨t, a, h t b⟩
theorem lv_as {cells slots : Nat} {x y : Int32} (h : x = y) (k : W p l e R s m args below meth c H locs cells slots Q (F0 m pc ls (.int y :: rest))) : W p l e R s m args below meth c H locs cells slots Q (F0 m pc ls (.int x :: rest)) := by rw [h]; exact k
/-! calls of methods that don't throw -/
theorem gc_Vi (S : CallFix p m c cc nL s args Ts own) (hM : gMi l y ws rm D w tys (.ref b :: As) H.size σ r τ) (cw : CallW R s args own C index y bytes maxL ret ws rm 0 0 n)
    (hK : va_K D vwCl tys s) (hP : va_P D vwCl (w σ) H) (hD : va_D A (w σ)) (hS : va_S A s.heap H locs) (hA : ∀ q, s.heap.size ≤ q → A q) {ci q0 : Nat} {T : u_T} {N : Nat} {fs : List Value} (hc : vwCl[ci]? = some (C, T, N)) (he : (w σ)[q0]? = some (b, .inr (ci, fs)))
    (hn : As.length = n) (hsize : ls.size = nL) (hst : st0 = As.reverse ++ .ref b :: rest) (hW : (rest.map fun v => v.category).sum ≤ 8) (hdg : decode cc pc = .ok (.invokevirtual index, 3))
    (kk : ∀ (H1 : Heap) (locs1 : List Loc), va_P D vwCl (w τ) H1 → va_D A (w τ) → va_S A s.heap H1 locs1 → W p l e R s m args below meth c H1 locs1 0 0 Q (F0 m (pc + 3) ls (.int r :: rest))) : W p l e R s m args below meth c H locs 0 0 Q (F0 m pc ls st0) := by
  subst hst
  have hF := gFree hD hS hA
  refine va_calli (va_runV (As := As) (rest := rest) S hM cw ⟨gPre_blind, va_recv hK hP hc he, fun U hU hWm => ⟨rfl, by rw [hU], by rw [hU]; exact hP, va_K.moved hWm.alike hK, hD.weaken (fun _ _ _ _ => trivial)⟩⟩ rfl hn hsize rfl (lv_room hW) hdg ⟨Nat.zero_le _, Nat.zero_le _⟩) hS (fun q _ h => hF q h) hF (fun r1 u t H1 locs1 ht hvm hw hB hz1 hk1 hS1 => ?_)
  obtain ⟨rfl, rfl⟩ := hw
  obtain ⟨hP1, hK1, hD1⟩ := hB
  rw [ht] at hP1
  exact kk H1 locs1 hP1 (hD1.weaken (fun _ _ _ h => hF _ h)) hS1
theorem gc_Vv (S : CallFix p m c cc nL s args Ts own) (hM : gMv l y ws rm D w tys (.ref b :: As) H.size σ τ) (cw : CallW R s args own C index y bytes maxL ret ws rm 0 0 n)
    (hK : va_K D vwCl tys s) (hP : va_P D vwCl (w σ) H) (hD : va_D A (w σ)) (hS : va_S A s.heap H locs) (hA : ∀ q, s.heap.size ≤ q → A q) {ci q0 : Nat} {T : u_T} {N : Nat} {fs : List Value} (hc : vwCl[ci]? = some (C, T, N)) (he : (w σ)[q0]? = some (b, .inr (ci, fs)))
    (hn : As.length = n) (hsize : ls.size = nL) (hst : st0 = As.reverse ++ .ref b :: rest) (hW : (rest.map fun v => v.category).sum ≤ 8) (hdg : decode cc pc = .ok (.invokevirtual index, 3))
    (kk : ∀ (H1 : Heap) (locs1 : List Loc), va_P D vwCl (w τ) H1 → va_D A (w τ) → va_S A s.heap H1 locs1 → W p l e R s m args below meth c H1 locs1 0 0 Q (F0 m (pc + 3) ls rest)) : W p l e R s m args below meth c H locs 0 0 Q (F0 m pc ls st0) := by
  subst hst
  have hF := gFree hD hS hA
  refine va_callv (va_runV (As := As) (rest := rest) S hM cw ⟨gPre_blind, va_recv hK hP hc he, fun U hU hWm => ⟨rfl, by rw [hU], by rw [hU]; exact hP, va_K.moved hWm.alike hK, hD.weaken (fun _ _ _ _ => trivial)⟩⟩ rfl hn hsize rfl (lv_room hW) hdg ⟨Nat.zero_le _, Nat.zero_le _⟩) hS (fun q _ h => hF q h) hF (fun u t H1 locs1 ht hvm hw hB hz1 hk1 hS1 => ?_)
  subst hw
  obtain ⟨hP1, hK1, hD1⟩ := hB
  rw [ht] at hP1
  exact kk H1 locs1 hP1 (hD1.weaken (fun _ _ _ h => hF _ h)) hS1
theorem gc_Si (S : CallFix p m c cc nL s args Ts own) (hM : gMi l y ws rm D w tys As H.size σ r τ) (cw : CallB R s args own index y bytes maxL ret ws rm 0 0 n ∧ (Cond.static y).before args s = true)
    (hK : va_K D vwCl tys s) (hP : va_P D vwCl (w σ) H) (hD : va_D A (w σ)) (hS : va_S A s.heap H locs) (hA : ∀ q, s.heap.size ≤ q → A q)
    (hn : As.length = n) (hsize : ls.size = nL) (hst : st0 = As.reverse ++ rest) (hW : (rest.map fun v => v.category).sum ≤ 8) (hdg : decode cc pc = .ok (.invokestatic index, 3))
    (kk : ∀ (H1 : Heap) (locs1 : List Loc), va_P D vwCl (w τ) H1 → va_D A (w τ) → va_S A s.heap H1 locs1 → W p l e R s m args below meth c H1 locs1 0 0 Q (F0 m (pc + 3) ls (.int r :: rest))) : W p l e R s m args below meth c H locs 0 0 Q (F0 m pc ls st0) := by
  subst hst
  have hF := gFree hD hS hA
  refine va_calli (va_runS (As := As) (rest := rest) S hM cw ⟨gPre_blind, fun U hU hWm => ⟨rfl, by rw [hU], by rw [hU]; exact hP, va_K.moved hWm.alike hK, hD.weaken (fun _ _ _ _ => trivial)⟩⟩ rfl hn hsize rfl (lv_room hW) hdg ⟨Nat.zero_le _, Nat.zero_le _⟩) hS (fun q _ h => hF q h) hF (fun r1 u t H1 locs1 ht hvm hw hB hz1 hk1 hS1 => ?_)
  obtain ⟨rfl, rfl⟩ := hw
  obtain ⟨hP1, hK1, hD1⟩ := hB
  rw [ht] at hP1
  exact kk H1 locs1 hP1 (hD1.weaken (fun _ _ _ h => hF _ h)) hS1
/-! the ends -/
theorem ty_ret {Qc : Array Value → State → Outcome → State → Prop} {XC : String → State → State → Prop} {mc ms : Nat} {free : Addr → Prop} {g : JFrame} (k : W p l e R s m args below meth c H locs 0 0 (MQ below Qc args s 0 0 free) g) : W p l e R s m args below meth c H locs 0 0 (ty_MQ below Qc XC args s mc ms free) g := by
  intro T hT X
  obtain ⟨t, a1, o, b1, b2, b3, b4⟩ := k T hT X
  exact ⟨t, a1, o, b1, b2, Or.inl ⟨b3, b4⟩⟩
theorem ty_thrown {Qc : Array Value → State → Outcome → State → Prop} {XC : String → State → State → Prop} {mc ms cells slots : Nat} {free : Addr → Prop} {g : JFrame} (k : W p l e R s m args below meth c H locs cells slots (vx_MQ below (fun _ _ _ _ => False) XC args s mc ms free) g) : W p l e R s m args below meth c H locs cells slots (ty_MQ below Qc XC args s mc ms free) g := by
  intro T hT X
  obtain ⟨t, a1, o, b1, b2, b3⟩ := k T hT X
  rcases b3 with ⟨b3, -⟩ | b3
  · exact absurd b3 (fun h => h)
  · exact ⟨t, a1, o, b1, b2, Or.inr b3⟩
theorem ty_thrownX {Qc : Array Value → State → Outcome → State → Prop} {XC : String → State → State → Prop} {mc ms cells slots : Nat} {free : Addr → Prop} {g : JFrame} {q : Addr} (k : vx_W p l e R s m args below meth c H locs cells slots (vx_MQ below (fun _ _ _ _ => False) XC args s mc ms free) g q) : vx_W p l e R s m args below meth c H locs cells slots (ty_MQ below Qc XC args s mc ms free) g q := by
  intro T hT X
  obtain ⟨t, a1, o, b1, b2, b3⟩ := k T hT X
  rcases b3 with ⟨b3, -⟩ | b3
  · exact absurd b3 (fun h => h)
  · exact ⟨t, a1, o, b1, b2, Or.inr b3⟩
theorem g_iret {v : Int32} {ty : FieldType} (hx : p.tables.exec = Jvm.exec) (hb : c.code = cc) (hr : meth.sig.returnType = some ty) (hn : narrow ty (.int v) = .int v) (hlocks : meth.locks = false) (hP : va_P D vwCl (w σ) H) (hK : va_K D vwCl tys s) (hD : va_D A (w σ)) (hS : va_S A s.heap H locs) (hdg : decode cc pc = .ok (.ireturn, 1)) (h1 : v = r) (h2 : σ = τ) :
    W p l e R s m args below meth c H locs 0 0 (MQ below (gQi D w tys A r τ) args s 0 0 A) (F0 m pc ls [.int v]) := by
  subst h1; subst h2
  exact W.zret (v := v) hx hb hr hn (fun t ht hW => ⟨⟨v, σ, rfl, ⟨rfl, rfl⟩, by rw [ht]; exact hP, va_K.moved hW.alike hK, hD⟩, hS.F ht⟩) hS.2.2 hdg hlocks
theorem g_iretR {v : Int32} {ty : FieldType} (hx : p.tables.exec = Jvm.exec) (hb : c.code = cc) (hr : meth.sig.returnType = some ty) (hn : narrow ty (.int v) = .int v) (hlocks : meth.locks = false) (hP : va_P D vwCl (w σ) H) (hK : va_K D vwCl tys s) (hD : va_D A (w σ)) (hS : va_S A s.heap H locs) (hdg : decode cc pc = .ok (.ireturn, 1)) (hF : some v = some r) :
    W p l e R s m args below meth c H locs 0 0 (MQ below (gQi D w tys A r σ) args s 0 0 A) (F0 m pc ls [.int v]) := g_iret hx hb hr hn hlocks hP hK hD hS hdg (Option.some.inj hF) rfl
theorem g_iretN {v : Int32} {ty : FieldType} (hx : p.tables.exec = Jvm.exec) (hb : c.code = cc) (hr : meth.sig.returnType = some ty) (hn : narrow ty (.int v) = .int v) (hlocks : meth.locks = false) (hP : va_P D vwCl (w σ) H) (hK : va_K D vwCl tys s) (hD : va_D A (w σ)) (hS : va_S A s.heap H locs) (hdg : decode cc pc = .ok (.ireturn, 1)) (hF : some (v, σ) = some (r, τ)) :
    W p l e R s m args below meth c H locs 0 0 (MQ below (gQi D w tys A r τ) args s 0 0 A) (F0 m pc ls [.int v]) := g_iret hx hb hr hn hlocks hP hK hD hS hdg (congrArg Prod.fst (Option.some.inj hF)) (congrArg Prod.snd (Option.some.inj hF))
theorem g_vretN (hx : p.tables.exec = Jvm.exec) (hb : c.code = cc) (hr : meth.sig.returnType = none) (hlocks : meth.locks = false) (hP : va_P D vwCl (w σ) H) (hK : va_K D vwCl tys s) (hD : va_D A (w σ)) (hS : va_S A s.heap H locs) (hdg : decode cc pc = .ok (.return_, 1)) (hF : some σ = some τ) :
    W p l e R s m args below meth c H locs 0 0 (MQ below (gQv D w tys A τ) args s 0 0 A) (F0 m pc ls []) := by
  have h := Option.some.inj hF
  subst h
  exact W.vret hx hb hr (fun t ht hW => ⟨⟨σ, rfl, rfl, by rw [ht]; exact hP, va_K.moved hW.alike hK, hD⟩, hS.F ht⟩) hS.2.2 hdg hlocks
theorem g_iretX {v : Int32} {ty : FieldType} {mc ms : Nat} (hx : p.tables.exec = Jvm.exec) (hb : c.code = cc) (hr : meth.sig.returnType = some ty) (hn : narrow ty (.int v) = .int v) (hlocks : meth.locks = false) (hP : va_P D vwCl (w σ) H) (hK : va_K D vwCl tys s) (hD : va_D A (w σ)) (hS : va_S A s.heap H locs) (hdg : decode cc pc = .ok (.ireturn, 1)) {XC : String → State → State → Prop} (hF : some ((0, v, σ) : tyX) = some res) :
    W p l e R s m args below meth c H locs 0 0 (ty_MQ below (gQXi D w tys A res) XC args s mc ms A) (F0 m pc ls [.int v]) := by
  have h := Option.some.inj hF
  subst h
  exact ty_ret (W.zret (v := v) hx hb hr hn (fun t ht hW => ⟨⟨v, σ, rfl, rfl, by rw [ht]; exact hP, va_K.moved hW.alike hK, hD⟩, hS.F ht⟩) hS.2.2 hdg hlocks)
theorem g_vretX {mc ms : Nat} (hx : p.tables.exec = Jvm.exec) (hb : c.code = cc) (hr : meth.sig.returnType = none) (hlocks : meth.locks = false) (hP : va_P D vwCl (w σ) H) (hK : va_K D vwCl tys s) (hD : va_D A (w σ)) (hS : va_S A s.heap H locs) (hdg : decode cc pc = .ok (.return_, 1)) {XC : String → State → State → Prop} (hF : some ((0, 0, σ) : tyX) = some res) :
    W p l e R s m args below meth c H locs 0 0 (ty_MQ below (gQXv D w tys A res) XC args s mc ms A) (F0 m pc ls []) := by
  have h := Option.some.inj hF
  subst h
  exact ty_ret (W.vret hx hb hr (fun t ht hW => ⟨⟨σ, rfl, rfl, by rw [ht]; exact hP, va_K.moved hW.alike hK, hD⟩, hS.F ht⟩) hS.2.2 hdg hlocks)
/-! calls of methods that may throw -/
theorem gx_out {E : String} {ce : Cell} {q : Addr} {Qc : Array Value → State → Outcome → State → Prop} (ht : ∀ x ∈ c.exceptionTable.toList, False) (hlocks : meth.locks = false) (hcell : H[q]? = some ce) (hv : ce.vm = .none) (hcl : s.vm.findClass E = some ce.cls)
    (hP : va_P D vwCl (w σ) H) (hK : va_K D vwCl tys s) (hD : va_D A (w σ)) (hS : va_S A s.heap H locs) (hres : ∃ k, res = (k + 1, 0, σ) ∧ E = exn (k + 1)) :
    vx_W p l e R s m args below meth c H locs (0 + 1) (0 + 6) (ty_MQ below Qc (gXC D w tys A res) args s 1 6 A) (F0 m pc ls rest) q :=
  ty_thrownX (vx_out (fun x hx => absurd (ht x hx) (fun h => h)) hlocks hcell hv hcl (fun t hT hW => ⟨σ, trivial, ⟨hres, by rw [hT]; exact hP, va_K.moved hW hK, hD⟩, hS.F hT⟩) hS.2.2 (Nat.le_refl _) (Nat.le_refl _))
theorem gx_keep {B : Nat → Prop} {st₀ t T' : State} {L : List Loc} (h0 : st₀.heap = H) (e1 : T'.heap = t.heap) (hS : va_S A s.heap H locs) (hF : ∀ q, B q → A q) (hL : ∀ q ∈ L, B q.base) (h : va_F B st₀ t) : va_S A s.heap T'.heap (locs ++ L) := (vx_keep h0 e1 hS (fun q _ hq => hF q hq) hF hL h).2.2
/-- a run that has thrown goes on to the caller -/
theorem gx_T {g9 : State → Outcome → State → Prop} {res9 : tyX} {k9 : Nat} {r9 : Int32} {Qc : Array Value → State → Outcome → State → Prop}
    (hrun : ty_Run p l e R s m args below meth c H locs 0 0 1 6 (F0 m pc ls st0) rest g9 (gXC D w tys (va_A (w σ) H.size) res9) (va_A (w σ) H.size)) (hno : ∀ st v t, ¬ g9 st (.returned v) t) (hres9 : res9 = (k9 + 1, r9, τ)) (hres : res = (k9 + 1, 0, τ))
    (ht : ∀ x ∈ c.exceptionTable.toList, False) (hlocks : meth.locks = false) (hK : va_K D vwCl tys s) (hD : va_D A (w σ)) (hS : va_S A s.heap H locs) (hA : ∀ q, s.heap.size ≤ q → A q) :
    W p l e R s m args below meth c H locs 0 0 (ty_MQ below Qc (gXC D w tys A res) args s 1 6 A) (F0 m pc ls st0) := by
  have hF := gFree hD hS hA
  intro T hT X
  rcases hrun T hT X with ⟨v, st₀, t, T', L, h0, X', hL, e1, e2, hq, st⟩ | ⟨q, st₀, t, T', L, E, ce, h0, X', hL, e1, e2, ⟨u, -, ⟨⟨k, hk, hE⟩, hP1, hK1, hD1⟩, hFF⟩, hce, hcv, hcl, st⟩
  · exact absurd hq (hno _ _ _)
  · rw [hres9] at hk
    cases hk
    have hW1 := gx_out (p := p) (l := l) (e := e) (R := R) (m := m) (args := args) (below := below) (pc := pc) (ls := ls) (rest := rest) (Qc := Qc) (H := T'.heap) (locs := locs ++ L) (D := D) (w := w) (tys := tys) (A := A) (σ := τ) (res := res) (E := E) (ce := ce) (q := q) ht hlocks (by rw [e1]; exact hce) hcv hcl (by rw [e1]; exact hP1) hK (hD1.weaken (fun _ _ _ h => hF _ h)) (gx_keep h0 e1 hS hF hL hFF) ⟨k9, hres, hE⟩
    obtain ⟨t2, a1, b1⟩ := hW1 T' rfl X'
    exact ⟨t2, st.trans a1, b1⟩
/-- a run that has returned goes on -/
theorem gx_Ri {rest2 : List Value} {res9 : tyX} (hrun : ty_Run p l e R s m args below meth c H locs 0 0 1 6 (F0 m pc ls st0) rest (gQXi D w tys (va_A (w σ) H.size) res9 rest2.toArray) (gXC D w tys (va_A (w σ) H.size) res9) (va_A (w σ) H.size)) (hres9 : res9 = (0, r, τ))
    (hK : va_K D vwCl tys s) (hD : va_D A (w σ)) (hS : va_S A s.heap H locs) (hA : ∀ q, s.heap.size ≤ q → A q)
    (kk : ∀ (H1 : Heap) (locs1 : List Loc), va_P D vwCl (w τ) H1 → va_D A (w τ) → va_S A s.heap H1 locs1 → W p l e R s m args below meth c H1 locs1 0 0 Q (F0 m (pc + 3) ls (.int r :: rest))) : W p l e R s m args below meth c H locs 0 0 Q (F0 m pc ls st0) := by
  have hF := gFree hD hS hA
  intro T hT X
  rcases hrun T hT X with ⟨v, st₀, t, T', L, h0, X', hL, e1, e2, ⟨⟨r1, u, hv, hp, hP1, hK1, hD1⟩, hFF⟩, st⟩ | ⟨q, st₀, t, T', L, E, ce, h0, X', hL, e1, e2, ⟨u, -, ⟨⟨k, hk, hE⟩, hP1, hK1, hD1⟩, hFF⟩, hce, hcv, hcl, st⟩
  · rw [hres9] at hp
    cases hp
    cases hv
    obtain ⟨t2, a1, b1⟩ := kk T'.heap (locs ++ L) (by rw [e1]; exact hP1) (hD1.weaken (fun _ _ _ h => hF _ h)) (gx_keep h0 e1 hS hF hL hFF) T' rfl X'
    exact ⟨t2, st t2 a1, b1⟩
  · rw [hres9] at hk
    cases hk
theorem gx_Rv {rest2 : List Value} {res9 : tyX} (hrun : ty_Run p l e R s m args below meth c H locs 0 0 1 6 (F0 m pc ls st0) rest (gQXv D w tys (va_A (w σ) H.size) res9 rest2.toArray) (gXC D w tys (va_A (w σ) H.size) res9) (va_A (w σ) H.size)) (hres9 : res9 = (0, r, τ))
    (hK : va_K D vwCl tys s) (hD : va_D A (w σ)) (hS : va_S A s.heap H locs) (hA : ∀ q, s.heap.size ≤ q → A q)
    (kk : ∀ (H1 : Heap) (locs1 : List Loc), va_P D vwCl (w τ) H1 → va_D A (w τ) → va_S A s.heap H1 locs1 → W p l e R s m args below meth c H1 locs1 0 0 Q (F0 m (pc + 3) ls rest)) : W p l e R s m args below meth c H locs 0 0 Q (F0 m pc ls st0) := by
  have hF := gFree hD hS hA
  intro T hT X
  rcases hrun T hT X with ⟨v, st₀, t, T', L, h0, X', hL, e1, e2, ⟨⟨u, hv, hp, hP1, hK1, hD1⟩, hFF⟩, st⟩ | ⟨q, st₀, t, T', L, E, ce, h0, X', hL, e1, e2, ⟨u, -, ⟨⟨k, hk, hE⟩, hP1, hK1, hD1⟩, hFF⟩, hce, hcv, hcl, st⟩
  · rw [hres9] at hp
    cases hp
    cases hv
    obtain ⟨t2, a1, b1⟩ := kk T'.heap (locs ++ L) (by rw [e1]; exact hP1) (hD1.weaken (fun _ _ _ h => hF _ h)) (gx_keep h0 e1 hS hF hL hFF) T' rfl X'
    exact ⟨t2, st t2 a1, b1⟩
  · rw [hres9] at hk
    cases hk
/-- the run of a call, virtual or static, of a method that may throw -/
theorem gx_runV {Qc : Array Value → State → Outcome → State → Prop} {XC : String → State → State → Prop} (S : CallFix p m c cc nL s args Ts own) (hM : ty_Met l y ws rm (va_Pc (.ref b :: As) (gPreX gStr D w tys H.size σ)) Qc XC 1 6 (va_A (w σ) H.size)) (cw : CallW R s args own C index y bytes maxL ret ws rm 1 6 n) (hOK : gOK gStr A s s.heap)
    (hK : va_K D vwCl tys s) (hP : va_P D vwCl (w σ) H) (hD : va_D A (w σ)) (hS : va_S A s.heap H locs) (hA : ∀ q, s.heap.size ≤ q → A q) {ci q0 : Nat} {T : u_T} {N : Nat} {fs : List Value} (hc : vwCl[ci]? = some (C, T, N)) (he : (w σ)[q0]? = some (b, .inr (ci, fs)))
    (hn : As.length = n) (hsize : ls.size = nL) (hst : st0 = As.reverse ++ .ref b :: rest) (hW : (rest.map fun v => v.category).sum ≤ 8) (hdg : decode cc pc = .ok (.invokevirtual index, 3)) (hf : 0 + 1 ≤ R.cells ∧ 0 + 6 ≤ R.slots) :
    ty_Run p l e R s m args below meth c H locs 0 0 1 6 (F0 m pc ls st0) rest (Qc (Value.ref b :: As).toArray) XC (va_A (w σ) H.size) := by
  subst hst
  have hF := gFree hD hS hA
  exact ty_runV (As := As) (rest := rest) S hM cw ⟨gPreX_blind, va_recv hK hP hc he, fun U hU hWm => ⟨rfl, ⟨by rw [hU], by rw [hU]; exact hP, va_K.moved hWm.alike hK, hD.weaken (fun _ _ _ _ => trivial)⟩, hOK.go hS hU hWm hF⟩⟩ rfl hn hsize rfl (lv_room hW) hdg hf
theorem gx_runS {Qc : Array Value → State → Outcome → State → Prop} {XC : String → State → State → Prop} (S : CallFix p m c cc nL s args Ts own) (hM : ty_Met l y ws rm (va_Pc As (gPreX gStr D w tys H.size σ)) Qc XC 1 6 (va_A (w σ) H.size)) (cw : CallB R s args own index y bytes maxL ret ws rm 1 6 n ∧ (Cond.static y).before args s = true) (hOK : gOK gStr A s s.heap)
    (hK : va_K D vwCl tys s) (hP : va_P D vwCl (w σ) H) (hD : va_D A (w σ)) (hS : va_S A s.heap H locs) (hA : ∀ q, s.heap.size ≤ q → A q)
    (hn : As.length = n) (hsize : ls.size = nL) (hst : st0 = As.reverse ++ rest) (hW : (rest.map fun v => v.category).sum ≤ 8) (hdg : decode cc pc = .ok (.invokestatic index, 3)) (hf : 0 + 1 ≤ R.cells ∧ 0 + 6 ≤ R.slots) :
    ty_Run p l e R s m args below meth c H locs 0 0 1 6 (F0 m pc ls st0) rest (Qc As.toArray) XC (va_A (w σ) H.size) := by
  subst hst
  have hF := gFree hD hS hA
  exact ty_runS (As := As) (rest := rest) S hM cw ⟨gPreX_blind, fun U hU hWm => ⟨rfl, ⟨by rw [hU], by rw [hU]; exact hP, va_K.moved hWm.alike hK, hD.weaken (fun _ _ _ _ => trivial)⟩, hOK.go hS hU hWm hF⟩⟩ rfl hn hsize rfl (lv_room hW) hdg hf
theorem gx_noi {B : Nat → Prop} {res9 : tyX} {k9 : Nat} {r9 : Int32} {a : Array Value} (h : res9 = (k9 + 1, r9, τ)) : ∀ st v t, ¬ gQXi D w tys B res9 a st (.returned v) t := by
  rintro st v t ⟨⟨r1, u, hv, hp, -⟩, -⟩
  rw [h] at hp
  cases hp
theorem gx_nov {B : Nat → Prop} {res9 : tyX} {k9 : Nat} {r9 : Int32} {a : Array Value} (h : res9 = (k9 + 1, r9, τ)) : ∀ st v t, ¬ gQXv D w tys B res9 a st (.returned v) t := by
  rintro st v t ⟨⟨u, hv, hp, -⟩, -⟩
  rw [h] at hp
  cases hp
/-- 'throw new E("text")', not caught here -/
theorem gx_throwS {own cls text : String} {ik is ic k : Nat} {Qc : Array Value → State → Outcome → State → Prop} (hx : p.tables.exec = Jvm.exec) (hb : c.code = cc) (hl : l.stackTraces = false) (hown : s.vm.findClass own = some m.cls) (hcls : cls = exn (k + 1)) (hfit : Bundle.fit cls = true)
    (hk : (Cond.classLink own ik cls).before args s = true) (hini : (Cond.initialized cls).before args s = true) (hat : ∀ w ∈ (vx_atS own ic cls gNms).filter goodWord, w.before args s = true) (hno : ∀ w ∈ (vx_atS own ic cls gNms).filter (fun w => !goodWord w), w ∈ gNw)
    (hgood : ∀ w ∈ Cond.classLink own ik cls :: Cond.initialized cls :: vx_atS own ic cls gNms, vx_ot w = true) (hOK : gOK gStr A s s.heap) (hstr : (own, is, text) ∈ gStr) (hsize : ls.size = c.maxLocals) (ht : ∀ x ∈ c.exceptionTable.toList, False) (hlocks : meth.locks = false)
    (hP : va_P D vwCl (w σ) H) (hK : va_K D vwCl tys s) (hD : va_D A (w σ)) (hS : va_S A s.heap H locs)
    (d0 : decode cc pc = .ok (.new ik, 3)) (d3 : decode cc (pc + 3) = .ok (.dup, 1)) (d4 : decode cc (pc + 4) = .ok (.ldc is, 2)) (d6 : decode cc (pc + 6) = .ok (.invokespecial ic, 3)) (d9 : decode cc (pc + 9) = .ok (.athrow, 1))
    (hR : 5 < R.frames ∧ 82 ≤ R.locals ∧ 1 ≤ R.cells ∧ 6 ≤ R.slots) (hF : some ((k + 1, 0, σ) : tyX) = some res) :
    W p l e R s m args below meth c H locs 0 0 (ty_MQ below Qc (gXC D w tys A res) args s 1 6 A) (F0 m pc ls []) := by
  have h := Option.some.inj hF
  subst h
  obtain ⟨sa, hsa⟩ := hOK.2.2.2 _ hstr
  refine ty_thrown (vx_throwS (names := gNms) hx hb hl hown hfit (by decide +kernel) hk hini hsa (vx_hat hat hno (fun w hw => va_Nw.use (by simp only [gNw, List.mem_cons, List.not_mem_nil, or_false] at hw; rcases hw with rfl | rfl | rfl | rfl | rfl | rfl <;> rfl) (hOK.2.2.1 w hw))) hgood hOK.1 hOK.2.1 hS hsize d0 d3 d4 d6 d9 (fun x hx => absurd (ht x hx) (fun h => h)) hR.1 hR.2.1 (by show 0 + 1 ≤ _; omega) (by show 0 + 6 ≤ _; omega) hlocks (fun t hW hz hq => ?_) hS.2.2 (Nat.le_refl _) (Nat.le_refl _))
  exact ⟨σ, trivial, ⟨⟨k, rfl, hcls⟩, hP.kept (fun j q hj => hq q.1 ((hP j q hj).lt)), va_K.moved hW hK, hD⟩, ⟨Nat.le_trans hS.1 hz, fun q h1 h2 => (hq q (Nat.lt_of_lt_of_le h1 hS.1)).trans (hS.2.1 q h1 h2)⟩⟩
theorem gx_throwSW {own cls text : String} {ik is ic k : Nat} {Qc : Array Value → State → Outcome → State → Prop} (hx : p.tables.exec = Jvm.exec) (hb : c.code = cc) (hl : l.stackTraces = false) (hown : s.vm.findClass own = some m.cls) (hcls : cls = exn (k + 1)) (hfit : Bundle.fit cls = true)
    (hk : (Cond.classLink own ik cls).before args s = true) (hini : (Cond.initialized cls).before args s = true) (hat : ∀ w ∈ (vx_atS own ic cls gNms).filter goodWord, w.before args s = true) (hno : ∀ w ∈ (vx_atS own ic cls gNms).filter (fun w => !goodWord w), w ∈ gNw)
    (hgood : ∀ w ∈ Cond.classLink own ik cls :: Cond.initialized cls :: vx_atS own ic cls gNms, vx_ot w = true) (hOK : gOK gStr A s s.heap) (hstr : (own, is, text) ∈ gStr) (hsize : ls.size = c.maxLocals) (ht : ∀ x ∈ c.exceptionTable.toList, False) (hlocks : meth.locks = false)
    (hP : va_P D vwCl (w σ) H) (hK : va_K D vwCl tys s) (hD : va_D A (w σ)) (hS : va_S A s.heap H locs)
    (d0 : decode cc pc = .ok (.new ik, 3)) (d3 : decode cc (pc + 3) = .ok (.dup, 1)) (d4 : decode cc (pc + 4) = .ok (.ldc_w is, 3)) (d6 : decode cc (pc + 7) = .ok (.invokespecial ic, 3)) (d9 : decode cc (pc + 10) = .ok (.athrow, 1))
    (hR : 5 < R.frames ∧ 82 ≤ R.locals ∧ 1 ≤ R.cells ∧ 6 ≤ R.slots) (hF : some ((k + 1, 0, σ) : tyX) = some res) :
    W p l e R s m args below meth c H locs 0 0 (ty_MQ below Qc (gXC D w tys A res) args s 1 6 A) (F0 m pc ls []) := by
  have h := Option.some.inj hF
  subst h
  obtain ⟨sa, hsa⟩ := hOK.2.2.2 _ hstr
  refine ty_thrown (vx_throwSW (names := gNms) hx hb hl hown hfit (by decide +kernel) hk hini hsa (vx_hat hat hno (fun w hw => va_Nw.use (by simp only [gNw, List.mem_cons, List.not_mem_nil, or_false] at hw; rcases hw with rfl | rfl | rfl | rfl | rfl | rfl <;> rfl) (hOK.2.2.1 w hw))) hgood hOK.1 hOK.2.1 hS hsize d0 d3 d4 d6 d9 (fun x hx => absurd (ht x hx) (fun h => h)) hR.1 hR.2.1 (by show 0 + 1 ≤ _; omega) (by show 0 + 6 ≤ _; omega) hlocks (fun t hW hz hq => ?_) hS.2.2 (Nat.le_refl _) (Nat.le_refl _))
  exact ⟨σ, trivial, ⟨⟨k, rfl, hcls⟩, hP.kept (fun j q hj => hq q.1 ((hP j q hj).lt)), va_K.moved hW hK, hD⟩, ⟨Nat.le_trans hS.1 hz, fun q h1 h2 => (hq q (Nat.lt_of_lt_of_le h1 hS.1)).trans (hS.2.1 q h1 h2)⟩⟩
/-! stores -/
theorem gw_iast (hx : p.tables.exec = Jvm.exec) (hb : c.code = cc) (hK : va_K D vwCl tys s) (hP : va_P D vwCl (w σ) H) (hD : va_D A (w σ)) (hS : va_S A s.heap H locs) {q0 t0 a n : Nat} {cA : ClassId} (ha : (w σ)[q0]? = some (a, .inl (cA, n, .inl (σ.1 q0)))) (ht : tys[t0]? = some (cA, .int)) (hset : ∀ f, (w σ).set q0 (a, .inl (cA, n, .inl f)) = w (sA σ q0 f)) {i x : Int32} (hin : vp_in i n) (hdg : decode cc pc = .ok (.iastore, 1)) (hτ : τ = sW σ q0 i x)
    (kk : ∀ (H1 : Heap) (locs1 : List Loc), va_P D vwCl (w τ) H1 → va_D A (w τ) → va_S A s.heap H1 locs1 → W p l e R s m args below meth c H1 locs1 0 0 Q (F0 m (pc + 1) ls rest)) : W p l e R s m args below meth c H locs 0 0 Q (F0 m pc ls (.int x :: .int i :: .ref a :: rest)) := by
  refine va_iast hx hb hK hP hD hS q0 t0 ha ht hin hdg (fun H1 locs1 hP1 hD1 hS1 => ?_)
  rw [hset] at hP1 hD1
  rw [hτ] at kk
  exact kk H1 locs1 hP1 hD1 hS1
theorem gw_zast (hx : p.tables.exec = Jvm.exec) (hb : c.code = cc) (hK : va_K D vwCl tys s) (hP : va_P D vwCl (w σ) H) (hD : va_D A (w σ)) (hS : va_S A s.heap H locs) {q0 t0 a n : Nat} {cA : ClassId} (ha : (w σ)[q0]? = some (a, .inl (cA, n, .inl (σ.1 q0)))) (ht : tys[t0]? = some (cA, .boolean)) (hset : ∀ f, (w σ).set q0 (a, .inl (cA, n, .inl f)) = w (sA σ q0 f)) {i x x' : Int32} (hx' : vp_nar .boolean x = x') (hin : vp_in i n) (hdg : decode cc pc = .ok (.bastore, 1)) (hτ : τ = sW σ q0 i x')
    (kk : ∀ (H1 : Heap) (locs1 : List Loc), va_P D vwCl (w τ) H1 → va_D A (w τ) → va_S A s.heap H1 locs1 → W p l e R s m args below meth c H1 locs1 0 0 Q (F0 m (pc + 1) ls rest)) : W p l e R s m args below meth c H locs 0 0 Q (F0 m pc ls (.int x :: .int i :: .ref a :: rest)) := by
  refine va_zast hx hb hK hP hD hS q0 t0 ha ht hin hdg (fun H1 locs1 hP1 hD1 hS1 => ?_)
  rw [hset, hx'] at hP1 hD1
  rw [hτ] at kk
  exact kk H1 locs1 hP1 hD1 hS1
theorem gw_put (hx : p.tables.exec = Jvm.exec) (hb : c.code = cc) {ref : String} {T : u_T} {N ci : Nat} (hts : ∀ w ∈ Ts, w.before args s = true) (hin : ∀ w ∈ u_ws C T N, w ∈ Ts) (ty0 : Nat → FieldType) (hty : ∀ k, k < N → parseFieldDescriptor (T k).2.2.1 = some (ty0 k)) (hnm : ∀ a, a < N → ∀ b, b < N → a ≠ b → (T a).2.1 ≠ (T b).2.1) (hown : s.vm.findClass own = some m.cls) (hK : va_K D vwCl tys s) (hP : va_P D vwCl (w σ) H) (hD : va_D A (w σ)) (hS : va_S A s.heap H locs) (q0 : Nat) {a : Nat} {fs : List Value} (he : (w σ)[q0]? = some (a, .inr (ci, fs))) (hc : vwCl[ci]? = some (C, T, N)) (k : Nat) (hk : k < N) (hlink : (Cond.fieldLink own index ref (T k).2.1 (T k).2.2.1).before args s = true) (hsame : ∀ x, s.fieldFound? (T k).1 (T k).2.1 (T k).2.2.1 = some x → s.fieldFound? ref (T k).2.1 (T k).2.2.1 = some x) (hfin : (T k).2.2.2 = false) {x : Int32} (hd : parseFieldDescriptor (T k).2.2.1 = some .int) (hl : k < fs.length) {v : Nat} (hset : (w σ).set q0 (a, .inr (ci, fs.set k (.int x))) = w (sV σ v x))
    (hdg : decode cc pc = .ok (.putfield index, 3)) (hτ : τ = sV σ v x)
    (kk : ∀ (H1 : Heap) (locs1 : List Loc), va_P D vwCl (w τ) H1 → va_D A (w τ) → va_S A s.heap H1 locs1 → W p l e R s m args below meth c H1 locs1 0 0 Q (F0 m (pc + 3) ls rest)) : W p l e R s m args below meth c H locs 0 0 Q (F0 m pc ls (.int x :: .ref a :: rest)) := by
  refine va_put (ty := .int) hx hb hts hin ty0 hty hnm hown hK hP hD hS q0 he hc k hk hlink hsame hfin hd rfl rfl hl hdg (fun H1 locs1 hP1 hD1 hS1 => ?_)
  rw [hset] at hP1 hD1
  rw [hτ] at kk
  exact kk H1 locs1 hP1 hD1 hS1
end GC
end
section
/-! ===== worlds ===== -/
def fC_0 (ad : Nat → Nat) (σ : tyS) : List Value := [.ref (ad 1), .ref (ad 2), .ref (ad 3), .ref (ad 4), .ref (ad 5), .ref (ad 29), .ref (ad 30), .ref (ad 31), .int (σ.2 0), .int (σ.2 1), .int (σ.2 2), .int (σ.2 3)]
def fC_1 (ad : Nat → Nat) (σ : tyS) : List Value := [.ref (ad 6), .ref (ad 7)]
def fC_2 (ad : Nat → Nat) (σ : tyS) : List Value := [.ref (ad 8), .ref (ad 9)]
def fC_3 (ad : Nat → Nat) (σ : tyS) : List Value := [.ref (ad 10), .ref (ad 11), .ref (ad 12), .int (σ.2 4)]
def fC_4 (ad : Nat → Nat) (σ : tyS) : List Value := [.ref (ad 13), .ref (ad 14), .ref (ad 15), .ref (ad 16), .ref (ad 17), .ref (ad 18), .ref (ad 19), .ref (ad 20), .int (σ.2 5)]
def fC_5 (ad : Nat → Nat) (σ : tyS) : List Value := [.ref (ad 21), .ref (ad 22), .ref (ad 23), .ref (ad 24), .ref (ad 25), .ref (ad 26), .ref (ad 27), .ref (ad 28), .int (σ.2 6)]
def wC (ad : Nat → Nat) (cA : Nat → ClassId) (σ : tyS) : va_W := [(ad 0, .inr (4, fC_0 ad σ)), (ad 1, .inr (2, fC_1 ad σ)), (ad 2, .inr (2, fC_2 ad σ)), (ad 3, .inr (0, fC_3 ad σ)), (ad 4, .inr (1, fC_4 ad σ)), (ad 5, .inr (3, fC_5 ad σ)), (ad 6, .inl (cA 6, 55, .inl (σ.1 6))), (ad 7, .inl (cA 7, 330, .inl (σ.1 7))), (ad 8, .inl (cA 8, 55, .inl (σ.1 8))), (ad 9, .inl (cA 9, 330, .inl (σ.1 9))), (ad 10, .inl (cA 10, 512, .inl (σ.1 10))), (ad 11, .inl (cA 11, 512, .inl (σ.1 11))), (ad 12, .inl (cA 12, 512, .inl (σ.1 12))), (ad 13, .inl (cA 13, 40, .inl (σ.1 13))), (ad 14, .inl (cA 14, 40, .inl (σ.1 14))), (ad 15, .inl (cA 15, 40, .inl (σ.1 15))), (ad 16, .inl (cA 16, 40, .inl (σ.1 16))), (ad 17, .inl (cA 17, 40, .inl (σ.1 17))), (ad 18, .inl (cA 18, 40, .inl (σ.1 18))), (ad 19, .inl (cA 19, 1200, .inl (σ.1 19))), (ad 20, .inl (cA 20, 30, .inl (σ.1 20))), (ad 21, .inl (cA 21, 60, .inl (σ.1 21))), (ad 22, .inl (cA 22, 60, .inl (σ.1 22))), (ad 23, .inl (cA 23, 60, .inl (σ.1 23))), (ad 24, .inl (cA 24, 60, .inl (σ.1 24))), (ad 25, .inl (cA 25, 60, .inl (σ.1 25))), (ad 26, .inl (cA 26, 6, .inl (σ.1 26))), (ad 27, .inl (cA 27, 6, .inl (σ.1 27))), (ad 28, .inl (cA 28, 3, .inl (σ.1 28))), (ad 29, .inl (cA 29, 30, .inl (σ.1 29))), (ad 30, .inl (cA 30, 16, .inl (σ.1 30))), (ad 31, .inl (cA 31, 40, .inl (σ.1 31)))]
def tC (cA : Nat → ClassId) : List (ClassId × FieldType) := [(cA 6, .int), (cA 7, .int), (cA 8, .int), (cA 9, .int), (cA 10, .int), (cA 11, .int), (cA 12, .int), (cA 13, .int), (cA 14, .int), (cA 15, .int), (cA 16, .int), (cA 17, .int), (cA 18, .int), (cA 19, .int), (cA 20, .int), (cA 21, .int), (cA 22, .int), (cA 23, .int), (cA 24, .int), (cA 25, .int), (cA 26, .int), (cA 27, .int), (cA 28, .int), (cA 29, .int), (cA 30, .boolean), (cA 31, .int)]
theorem wC_0 (ad : Nat → Nat) (cA : Nat → ClassId) (σ : tyS) : (wC ad cA σ)[0]? = some (ad 0, .inr (4, fC_0 ad σ)) := rfl
theorem wC_1 (ad : Nat → Nat) (cA : Nat → ClassId) (σ : tyS) : (wC ad cA σ)[1]? = some (ad 1, .inr (2, fC_1 ad σ)) := rfl
theorem wC_2 (ad : Nat → Nat) (cA : Nat → ClassId) (σ : tyS) : (wC ad cA σ)[2]? = some (ad 2, .inr (2, fC_2 ad σ)) := rfl
theorem wC_3 (ad : Nat → Nat) (cA : Nat → ClassId) (σ : tyS) : (wC ad cA σ)[3]? = some (ad 3, .inr (0, fC_3 ad σ)) := rfl
theorem wC_4 (ad : Nat → Nat) (cA : Nat → ClassId) (σ : tyS) : (wC ad cA σ)[4]? = some (ad 4, .inr (1, fC_4 ad σ)) := rfl
theorem wC_5 (ad : Nat → Nat) (cA : Nat → ClassId) (σ : tyS) : (wC ad cA σ)[5]? = some (ad 5, .inr (3, fC_5 ad σ)) := rfl
theorem wC_6 (ad : Nat → Nat) (cA : Nat → ClassId) (σ : tyS) : (wC ad cA σ)[6]? = some (ad 6, .inl (cA 6, 55, .inl (σ.1 6))) := rfl
theorem wCs_6 (ad : Nat → Nat) (cA : Nat → ClassId) (σ : tyS) : ∀ f, (wC ad cA σ).set 6 (ad 6, .inl (cA 6, 55, .inl f)) = wC ad cA (sA σ 6 f) := fun _ => rfl
theorem tC_6 (cA : Nat → ClassId) : (tC cA)[0]? = some (cA 6, .int) := rfl
theorem wC_7 (ad : Nat → Nat) (cA : Nat → ClassId) (σ : tyS) : (wC ad cA σ)[7]? = some (ad 7, .inl (cA 7, 330, .inl (σ.1 7))) := rfl
theorem wCs_7 (ad : Nat → Nat) (cA : Nat → ClassId) (σ : tyS) : ∀ f, (wC ad cA σ).set 7 (ad 7, .inl (cA 7, 330, .inl f)) = wC ad cA (sA σ 7 f) := fun _ => rfl
theorem tC_7 (cA : Nat → ClassId) : (tC cA)[1]? = some (cA 7, .int) := rfl
theorem wC_8 (ad : Nat → Nat) (cA : Nat → ClassId) (σ : tyS) : (wC ad cA σ)[8]? = some (ad 8, .inl (cA 8, 55, .inl (σ.1 8))) := rfl
theorem wCs_8 (ad : Nat → Nat) (cA : Nat → ClassId) (σ : tyS) : ∀ f, (wC ad cA σ).set 8 (ad 8, .inl (cA 8, 55, .inl f)) = wC ad cA (sA σ 8 f) := fun _ => rfl
theorem tC_8 (cA : Nat → ClassId) : (tC cA)[2]? = some (cA 8, .int) := rfl
theorem wC_9 (ad : Nat → Nat) (cA : Nat → ClassId) (σ : tyS) : (wC ad cA σ)[9]? = some (ad 9, .inl (cA 9, 330, .inl (σ.1 9))) := rfl
theorem wCs_9 (ad : Nat → Nat) (cA : Nat → ClassId) (σ : tyS) : ∀ f, (wC ad cA σ).set 9 (ad 9, .inl (cA 9, 330, .inl f)) = wC ad cA (sA σ 9 f) := fun _ => rfl
theorem tC_9 (cA : Nat → ClassId) : (tC cA)[3]? = some (cA 9, .int) := rfl
theorem wC_10 (ad : Nat → Nat) (cA : Nat → ClassId) (σ : tyS) : (wC ad cA σ)[10]? = some (ad 10, .inl (cA 10, 512, .inl (σ.1 10))) := rfl
theorem wCs_10 (ad : Nat → Nat) (cA : Nat → ClassId) (σ : tyS) : ∀ f, (wC ad cA σ).set 10 (ad 10, .inl (cA 10, 512, .inl f)) = wC ad cA (sA σ 10 f) := fun _ => rfl
theorem tC_10 (cA : Nat → ClassId) : (tC cA)[4]? = some (cA 10, .int) := rfl
theorem wC_11 (ad : Nat → Nat) (cA : Nat → ClassId) (σ : tyS) : (wC ad cA σ)[11]? = some (ad 11, .inl (cA 11, 512, .inl (σ.1 11))) := rfl
theorem wCs_11 (ad : Nat → Nat) (cA : Nat → ClassId) (σ : tyS) : ∀ f, (wC ad cA σ).set 11 (ad 11, .inl (cA 11, 512, .inl f)) = wC ad cA (sA σ 11 f) := fun _ => rfl
theorem tC_11 (cA : Nat → ClassId) : (tC cA)[5]? = some (cA 11, .int) := rfl
theorem wC_12 (ad : Nat → Nat) (cA : Nat → ClassId) (σ : tyS) : (wC ad cA σ)[12]? = some (ad 12, .inl (cA 12, 512, .inl (σ.1 12))) := rfl
theorem wCs_12 (ad : Nat → Nat) (cA : Nat → ClassId) (σ : tyS) : ∀ f, (wC ad cA σ).set 12 (ad 12, .inl (cA 12, 512, .inl f)) = wC ad cA (sA σ 12 f) := fun _ => rfl
theorem tC_12 (cA : Nat → ClassId) : (tC cA)[6]? = some (cA 12, .int) := rfl
theorem wC_13 (ad : Nat → Nat) (cA : Nat → ClassId) (σ : tyS) : (wC ad cA σ)[13]? = some (ad 13, .inl (cA 13, 40, .inl (σ.1 13))) := rfl
theorem wCs_13 (ad : Nat → Nat) (cA : Nat → ClassId) (σ : tyS) : ∀ f, (wC ad cA σ).set 13 (ad 13, .inl (cA 13, 40, .inl f)) = wC ad cA (sA σ 13 f) := fun _ => rfl
theorem tC_13 (cA : Nat → ClassId) : (tC cA)[7]? = some (cA 13, .int) := rfl
theorem wC_14 (ad : Nat → Nat) (cA : Nat → ClassId) (σ : tyS) : (wC ad cA σ)[14]? = some (ad 14, .inl (cA 14, 40, .inl (σ.1 14))) := rfl
theorem wCs_14 (ad : Nat → Nat) (cA : Nat → ClassId) (σ : tyS) : ∀ f, (wC ad cA σ).set 14 (ad 14, .inl (cA 14, 40, .inl f)) = wC ad cA (sA σ 14 f) := fun _ => rfl
theorem tC_14 (cA : Nat → ClassId) : (tC cA)[8]? = some (cA 14, .int) := rfl
theorem wC_15 (ad : Nat → Nat) (cA : Nat → ClassId) (σ : tyS) : (wC ad cA σ)[15]? = some (ad 15, .inl (cA 15, 40, .inl (σ.1 15))) := rfl
theorem wCs_15 (ad : Nat → Nat) (cA : Nat → ClassId) (σ : tyS) : ∀ f, (wC ad cA σ).set 15 (ad 15, .inl (cA 15, 40, .inl f)) = wC ad cA (sA σ 15 f) := fun _ => rfl
theorem tC_15 (cA : Nat → ClassId) : (tC cA)[9]? = some (cA 15, .int) := rfl
theorem wC_16 (ad : Nat → Nat) (cA : Nat → ClassId) (σ : tyS) : (wC ad cA σ)[16]? = some (ad 16, .inl (cA 16, 40, .inl (σ.1 16))) := rfl
theorem wCs_16 (ad : Nat → Nat) (cA : Nat → ClassId) (σ : tyS) : ∀ f, (wC ad cA σ).set 16 (ad 16, .inl (cA 16, 40, .inl f)) = wC ad cA (sA σ 16 f) := fun _ => rfl
theorem tC_16 (cA : Nat → ClassId) : (tC cA)[10]? = some (cA 16, .int) := rfl
theorem wC_17 (ad : Nat → Nat) (cA : Nat → ClassId) (σ : tyS) : (wC ad cA σ)[17]? = some (ad 17, .inl (cA 17, 40, .inl (σ.1 17))) := rfl
theorem wCs_17 (ad : Nat → Nat) (cA : Nat → ClassId) (σ : tyS) : ∀ f, (wC ad cA σ).set 17 (ad 17, .inl (cA 17, 40, .inl f)) = wC ad cA (sA σ 17 f) := fun _ => rfl
theorem tC_17 (cA : Nat → ClassId) : (tC cA)[11]? = some (cA 17, .int) := rfl
theorem wC_18 (ad : Nat → Nat) (cA : Nat → ClassId) (σ : tyS) : (wC ad cA σ)[18]? = some (ad 18, .inl (cA 18, 40, .inl (σ.1 18))) := rfl
theorem wCs_18 (ad : Nat → Nat) (cA : Nat → ClassId) (σ : tyS) : ∀ f, (wC ad cA σ).set 18 (ad 18, .inl (cA 18, 40, .inl f)) = wC ad cA (sA σ 18 f) := fun _ => rfl
theorem tC_18 (cA : Nat → ClassId) : (tC cA)[12]? = some (cA 18, .int) := rfl
theorem wC_19 (ad : Nat → Nat) (cA : Nat → ClassId) (σ : tyS) : (wC ad cA σ)[19]? = some (ad 19, .inl (cA 19, 1200, .inl (σ.1 19))) := rfl
theorem wCs_19 (ad : Nat → Nat) (cA : Nat → ClassId) (σ : tyS) : ∀ f, (wC ad cA σ).set 19 (ad 19, .inl (cA 19, 1200, .inl f)) = wC ad cA (sA σ 19 f) := fun _ => rfl
theorem tC_19 (cA : Nat → ClassId) : (tC cA)[13]? = some (cA 19, .int) := rfl
theorem wC_20 (ad : Nat → Nat) (cA : Nat → ClassId) (σ : tyS) : (wC ad cA σ)[20]? = some (ad 20, .inl (cA 20, 30, .inl (σ.1 20))) := rfl
theorem wCs_20 (ad : Nat → Nat) (cA : Nat → ClassId) (σ : tyS) : ∀ f, (wC ad cA σ).set 20 (ad 20, .inl (cA 20, 30, .inl f)) = wC ad cA (sA σ 20 f) := fun _ => rfl
theorem tC_20 (cA : Nat → ClassId) : (tC cA)[14]? = some (cA 20, .int) := rfl
theorem wC_21 (ad : Nat → Nat) (cA : Nat → ClassId) (σ : tyS) : (wC ad cA σ)[21]? = some (ad 21, .inl (cA 21, 60, .inl (σ.1 21))) := rfl
theorem wCs_21 (ad : Nat → Nat) (cA : Nat → ClassId) (σ : tyS) : ∀ f, (wC ad cA σ).set 21 (ad 21, .inl (cA 21, 60, .inl f)) = wC ad cA (sA σ 21 f) := fun _ => rfl
theorem tC_21 (cA : Nat → ClassId) : (tC cA)[15]? = some (cA 21, .int) := rfl
theorem wC_22 (ad : Nat → Nat) (cA : Nat → ClassId) (σ : tyS) : (wC ad cA σ)[22]? = some (ad 22, .inl (cA 22, 60, .inl (σ.1 22))) := rfl
theorem wCs_22 (ad : Nat → Nat) (cA : Nat → ClassId) (σ : tyS) : ∀ f, (wC ad cA σ).set 22 (ad 22, .inl (cA 22, 60, .inl f)) = wC ad cA (sA σ 22 f) := fun _ => rfl
theorem tC_22 (cA : Nat → ClassId) : (tC cA)[16]? = some (cA 22, .int) := rfl
theorem wC_23 (ad : Nat → Nat) (cA : Nat → ClassId) (σ : tyS) : (wC ad cA σ)[23]? = some (ad 23, .inl (cA 23, 60, .inl (σ.1 23))) := rfl
theorem wCs_23 (ad : Nat → Nat) (cA : Nat → ClassId) (σ : tyS) : ∀ f, (wC ad cA σ).set 23 (ad 23, .inl (cA 23, 60, .inl f)) = wC ad cA (sA σ 23 f) := fun _ => rfl
theorem tC_23 (cA : Nat → ClassId) : (tC cA)[17]? = some (cA 23, .int) := rfl
theorem wC_24 (ad : Nat → Nat) (cA : Nat → ClassId) (σ : tyS) : (wC ad cA σ)[24]? = some (ad 24, .inl (cA 24, 60, .inl (σ.1 24))) := rfl
theorem wCs_24 (ad : Nat → Nat) (cA : Nat → ClassId) (σ : tyS) : ∀ f, (wC ad cA σ).set 24 (ad 24, .inl (cA 24, 60, .inl f)) = wC ad cA (sA σ 24 f) := fun _ => rfl
theorem tC_24 (cA : Nat → ClassId) : (tC cA)[18]? = some (cA 24, .int) := rfl
theorem wC_25 (ad : Nat → Nat) (cA : Nat → ClassId) (σ : tyS) : (wC ad cA σ)[25]? = some (ad 25, .inl (cA 25, 60, .inl (σ.1 25))) := rfl
theorem wCs_25 (ad : Nat → Nat) (cA : Nat → ClassId) (σ : tyS) : ∀ f, (wC ad cA σ).set 25 (ad 25, .inl (cA 25, 60, .inl f)) = wC ad cA (sA σ 25 f) := fun _ => rfl
theorem tC_25 (cA : Nat → ClassId) : (tC cA)[19]? = some (cA 25, .int) := rfl
theorem wC_26 (ad : Nat → Nat) (cA : Nat → ClassId) (σ : tyS) : (wC ad cA σ)[26]? = some (ad 26, .inl (cA 26, 6, .inl (σ.1 26))) := rfl
theorem wCs_26 (ad : Nat → Nat) (cA : Nat → ClassId) (σ : tyS) : ∀ f, (wC ad cA σ).set 26 (ad 26, .inl (cA 26, 6, .inl f)) = wC ad cA (sA σ 26 f) := fun _ => rfl
theorem tC_26 (cA : Nat → ClassId) : (tC cA)[20]? = some (cA 26, .int) := rfl
theorem wC_27 (ad : Nat → Nat) (cA : Nat → ClassId) (σ : tyS) : (wC ad cA σ)[27]? = some (ad 27, .inl (cA 27, 6, .inl (σ.1 27))) := rfl
theorem wCs_27 (ad : Nat → Nat) (cA : Nat → ClassId) (σ : tyS) : ∀ f, (wC ad cA σ).set 27 (ad 27, .inl (cA 27, 6, .inl f)) = wC ad cA (sA σ 27 f) := fun _ => rfl
theorem tC_27 (cA : Nat → ClassId) : (tC cA)[21]? = some (cA 27, .int) := rfl
theorem wC_28 (ad : Nat → Nat) (cA : Nat → ClassId) (σ : tyS) : (wC ad cA σ)[28]? = some (ad 28, .inl (cA 28, 3, .inl (σ.1 28))) := rfl
theorem wCs_28 (ad : Nat → Nat) (cA : Nat → ClassId) (σ : tyS) : ∀ f, (wC ad cA σ).set 28 (ad 28, .inl (cA 28, 3, .inl f)) = wC ad cA (sA σ 28 f) := fun _ => rfl
theorem tC_28 (cA : Nat → ClassId) : (tC cA)[22]? = some (cA 28, .int) := rfl
theorem wC_29 (ad : Nat → Nat) (cA : Nat → ClassId) (σ : tyS) : (wC ad cA σ)[29]? = some (ad 29, .inl (cA 29, 30, .inl (σ.1 29))) := rfl
theorem wCs_29 (ad : Nat → Nat) (cA : Nat → ClassId) (σ : tyS) : ∀ f, (wC ad cA σ).set 29 (ad 29, .inl (cA 29, 30, .inl f)) = wC ad cA (sA σ 29 f) := fun _ => rfl
theorem tC_29 (cA : Nat → ClassId) : (tC cA)[23]? = some (cA 29, .int) := rfl
theorem wC_30 (ad : Nat → Nat) (cA : Nat → ClassId) (σ : tyS) : (wC ad cA σ)[30]? = some (ad 30, .inl (cA 30, 16, .inl (σ.1 30))) := rfl
theorem wCs_30 (ad : Nat → Nat) (cA : Nat → ClassId) (σ : tyS) : ∀ f, (wC ad cA σ).set 30 (ad 30, .inl (cA 30, 16, .inl f)) = wC ad cA (sA σ 30 f) := fun _ => rfl
theorem tC_30 (cA : Nat → ClassId) : (tC cA)[24]? = some (cA 30, .boolean) := rfl
theorem wC_31 (ad : Nat → Nat) (cA : Nat → ClassId) (σ : tyS) : (wC ad cA σ)[31]? = some (ad 31, .inl (cA 31, 40, .inl (σ.1 31))) := rfl
theorem wCs_31 (ad : Nat → Nat) (cA : Nat → ClassId) (σ : tyS) : ∀ f, (wC ad cA σ).set 31 (ad 31, .inl (cA 31, 40, .inl f)) = wC ad cA (sA σ 31 f) := fun _ => rfl
theorem tC_31 (cA : Nat → ClassId) : (tC cA)[25]? = some (cA 31, .int) := rfl
theorem wCv_0 (ad : Nat → Nat) (cA : Nat → ClassId) (σ : tyS) (x : Int32) : (wC ad cA σ).set 0 (ad 0, .inr (4, (fC_0 ad σ).set 8 (.int x))) = wC ad cA (sV σ 0 x) := rfl
theorem wCv_1 (ad : Nat → Nat) (cA : Nat → ClassId) (σ : tyS) (x : Int32) : (wC ad cA σ).set 0 (ad 0, .inr (4, (fC_0 ad σ).set 9 (.int x))) = wC ad cA (sV σ 1 x) := rfl
theorem wCv_2 (ad : Nat → Nat) (cA : Nat → ClassId) (σ : tyS) (x : Int32) : (wC ad cA σ).set 0 (ad 0, .inr (4, (fC_0 ad σ).set 10 (.int x))) = wC ad cA (sV σ 2 x) := rfl
theorem wCv_3 (ad : Nat → Nat) (cA : Nat → ClassId) (σ : tyS) (x : Int32) : (wC ad cA σ).set 0 (ad 0, .inr (4, (fC_0 ad σ).set 11 (.int x))) = wC ad cA (sV σ 3 x) := rfl
theorem wCv_4 (ad : Nat → Nat) (cA : Nat → ClassId) (σ : tyS) (x : Int32) : (wC ad cA σ).set 3 (ad 3, .inr (0, (fC_3 ad σ).set 3 (.int x))) = wC ad cA (sV σ 4 x) := rfl
theorem wCv_5 (ad : Nat → Nat) (cA : Nat → ClassId) (σ : tyS) (x : Int32) : (wC ad cA σ).set 4 (ad 4, .inr (1, (fC_4 ad σ).set 8 (.int x))) = wC ad cA (sV σ 5 x) := rfl
theorem wCv_6 (ad : Nat → Nat) (cA : Nat → ClassId) (σ : tyS) (x : Int32) : (wC ad cA σ).set 5 (ad 5, .inr (3, (fC_5 ad σ).set 8 (.int x))) = wC ad cA (sV σ 6 x) := rfl
def fM_0 (ad : Nat → Nat) (σ : tyS) : List Value := [.int (σ.2 0), .int (σ.2 1), .int (σ.2 2), .ref (ad 1), .ref (ad 2), .ref (ad 3), .ref (ad 4), .ref (ad 5), .ref (ad 6), .ref (ad 7), .ref (ad 8), .int (σ.2 3), .int (σ.2 4), .ref (ad 9), .ref (ad 10), .ref (ad 11), .ref (ad 12), .int (σ.2 5), .ref (ad 13), .ref (ad 14), .ref (ad 15), .ref (ad 16), .ref (ad 17), .ref (ad 18), .ref (ad 19), .int (σ.2 6), .ref (ad 20), .ref (ad 21), .ref (ad 22), .ref (ad 23)]
def wM (ad : Nat → Nat) (cA : Nat → ClassId) (σ : tyS) : va_W := [(ad 0, .inr (5, fM_0 ad σ)), (ad 1, .inl (cA 1, 30, .inl (σ.1 1))), (ad 2, .inl (cA 2, 30, .inl (σ.1 2))), (ad 3, .inl (cA 3, 30, .inl (σ.1 3))), (ad 4, .inl (cA 4, 15, .inl (σ.1 4))), (ad 5, .inl (cA 5, 90, .inl (σ.1 5))), (ad 6, .inl (cA 6, 4, .inl (σ.1 6))), (ad 7, .inl (cA 7, 6, .inl (σ.1 7))), (ad 8, .inl (cA 8, 3, .inl (σ.1 8))), (ad 9, .inl (cA 9, 60, .inl (σ.1 9))), (ad 10, .inl (cA 10, 60, .inl (σ.1 10))), (ad 11, .inl (cA 11, 60, .inl (σ.1 11))), (ad 12, .inl (cA 12, 60, .inl (σ.1 12))), (ad 13, .inl (cA 13, 40, .inl (σ.1 13))), (ad 14, .inl (cA 14, 40, .inl (σ.1 14))), (ad 15, .inl (cA 15, 40, .inl (σ.1 15))), (ad 16, .inl (cA 16, 40, .inl (σ.1 16))), (ad 17, .inl (cA 17, 40, .inl (σ.1 17))), (ad 18, .inl (cA 18, 40, .inl (σ.1 18))), (ad 19, .inl (cA 19, 1200, .inl (σ.1 19))), (ad 20, .inl (cA 20, 40, .inl (σ.1 20))), (ad 21, .inl (cA 21, 40, .inl (σ.1 21))), (ad 22, .inl (cA 22, 40, .inl (σ.1 22))), (ad 23, .inl (cA 23, 240, .inl (σ.1 23)))]
def tM (cA : Nat → ClassId) : List (ClassId × FieldType) := [(cA 1, .int), (cA 2, .int), (cA 3, .int), (cA 4, .int), (cA 5, .int), (cA 6, .int), (cA 7, .int), (cA 8, .int), (cA 9, .int), (cA 10, .int), (cA 11, .boolean), (cA 12, .int), (cA 13, .int), (cA 14, .int), (cA 15, .int), (cA 16, .int), (cA 17, .int), (cA 18, .int), (cA 19, .int), (cA 20, .int), (cA 21, .boolean), (cA 22, .int), (cA 23, .int)]
theorem wM_0 (ad : Nat → Nat) (cA : Nat → ClassId) (σ : tyS) : (wM ad cA σ)[0]? = some (ad 0, .inr (5, fM_0 ad σ)) := rfl
theorem wM_1 (ad : Nat → Nat) (cA : Nat → ClassId) (σ : tyS) : (wM ad cA σ)[1]? = some (ad 1, .inl (cA 1, 30, .inl (σ.1 1))) := rfl
theorem wMs_1 (ad : Nat → Nat) (cA : Nat → ClassId) (σ : tyS) : ∀ f, (wM ad cA σ).set 1 (ad 1, .inl (cA 1, 30, .inl f)) = wM ad cA (sA σ 1 f) := fun _ => rfl
theorem tM_1 (cA : Nat → ClassId) : (tM cA)[0]? = some (cA 1, .int) := rfl
theorem wM_2 (ad : Nat → Nat) (cA : Nat → ClassId) (σ : tyS) : (wM ad cA σ)[2]? = some (ad 2, .inl (cA 2, 30, .inl (σ.1 2))) := rfl
theorem wMs_2 (ad : Nat → Nat) (cA : Nat → ClassId) (σ : tyS) : ∀ f, (wM ad cA σ).set 2 (ad 2, .inl (cA 2, 30, .inl f)) = wM ad cA (sA σ 2 f) := fun _ => rfl
theorem tM_2 (cA : Nat → ClassId) : (tM cA)[1]? = some (cA 2, .int) := rfl
theorem wM_3 (ad : Nat → Nat) (cA : Nat → ClassId) (σ : tyS) : (wM ad cA σ)[3]? = some (ad 3, .inl (cA 3, 30, .inl (σ.1 3))) := rfl
theorem wMs_3 (ad : Nat → Nat) (cA : Nat → ClassId) (σ : tyS) : ∀ f, (wM ad cA σ).set 3 (ad 3, .inl (cA 3, 30, .inl f)) = wM ad cA (sA σ 3 f) := fun _ => rfl
theorem tM_3 (cA : Nat → ClassId) : (tM cA)[2]? = some (cA 3, .int) := rfl
theorem wM_4 (ad : Nat → Nat) (cA : Nat → ClassId) (σ : tyS) : (wM ad cA σ)[4]? = some (ad 4, .inl (cA 4, 15, .inl (σ.1 4))) := rfl
theorem wMs_4 (ad : Nat → Nat) (cA : Nat → ClassId) (σ : tyS) : ∀ f, (wM ad cA σ).set 4 (ad 4, .inl (cA 4, 15, .inl f)) = wM ad cA (sA σ 4 f) := fun _ => rfl
theorem tM_4 (cA : Nat → ClassId) : (tM cA)[3]? = some (cA 4, .int) := rfl
theorem wM_5 (ad : Nat → Nat) (cA : Nat → ClassId) (σ : tyS) : (wM ad cA σ)[5]? = some (ad 5, .inl (cA 5, 90, .inl (σ.1 5))) := rfl
theorem wMs_5 (ad : Nat → Nat) (cA : Nat → ClassId) (σ : tyS) : ∀ f, (wM ad cA σ).set 5 (ad 5, .inl (cA 5, 90, .inl f)) = wM ad cA (sA σ 5 f) := fun _ => rfl
theorem tM_5 (cA : Nat → ClassId) : (tM cA)[4]? = some (cA 5, .int) := rfl
theorem wM_6 (ad : Nat → Nat) (cA : Nat → ClassId) (σ : tyS) : (wM ad cA σ)[6]? = some (ad 6, .inl (cA 6, 4, .inl (σ.1 6))) := rfl
theorem wMs_6 (ad : Nat → Nat) (cA : Nat → ClassId) (σ : tyS) : ∀ f, (wM ad cA σ).set 6 (ad 6, .inl (cA 6, 4, .inl f)) = wM ad cA (sA σ 6 f) := fun _ => rfl
theorem tM_6 (cA : Nat → ClassId) : (tM cA)[5]? = some (cA 6, .int) := rfl
theorem wM_7 (ad : Nat → Nat) (cA : Nat → ClassId) (σ : tyS) : (wM ad cA σ)[7]? = some (ad 7, .inl (cA 7, 6, .inl (σ.1 7))) := rfl
theorem wMs_7 (ad : Nat → Nat) (cA : Nat → ClassId) (σ : tyS) : ∀ f, (wM ad cA σ).set 7 (ad 7, .inl (cA 7, 6, .inl f)) = wM ad cA (sA σ 7 f) := fun _ => rfl
theorem tM_7 (cA : Nat → ClassId) : (tM cA)[6]? = some (cA 7, .int) := rfl
theorem wM_8 (ad : Nat → Nat) (cA : Nat → ClassId) (σ : tyS) : (wM ad cA σ)[8]? = some (ad 8, .inl (cA 8, 3, .inl (σ.1 8))) := rfl
theorem wMs_8 (ad : Nat → Nat) (cA : Nat → ClassId) (σ : tyS) : ∀ f, (wM ad cA σ).set 8 (ad 8, .inl (cA 8, 3, .inl f)) = wM ad cA (sA σ 8 f) := fun _ => rfl
theorem tM_8 (cA : Nat → ClassId) : (tM cA)[7]? = some (cA 8, .int) := rfl
theorem wM_9 (ad : Nat → Nat) (cA : Nat → ClassId) (σ : tyS) : (wM ad cA σ)[9]? = some (ad 9, .inl (cA 9, 60, .inl (σ.1 9))) := rfl
theorem wMs_9 (ad : Nat → Nat) (cA : Nat → ClassId) (σ : tyS) : ∀ f, (wM ad cA σ).set 9 (ad 9, .inl (cA 9, 60, .inl f)) = wM ad cA (sA σ 9 f) := fun _ => rfl
theorem tM_9 (cA : Nat → ClassId) : (tM cA)[8]? = some (cA 9, .int) := rfl
theorem wM_10 (ad : Nat → Nat) (cA : Nat → ClassId) (σ : tyS) : (wM ad cA σ)[10]? = some (ad 10, .inl (cA 10, 60, .inl (σ.1 10))) := rfl
theorem wMs_10 (ad : Nat → Nat) (cA : Nat → ClassId) (σ : tyS) : ∀ f, (wM ad cA σ).set 10 (ad 10, .inl (cA 10, 60, .inl f)) = wM ad cA (sA σ 10 f) := fun _ => rfl
theorem tM_10 (cA : Nat → ClassId) : (tM cA)[9]? = some (cA 10, .int) := rfl
theorem wM_11 (ad : Nat → Nat) (cA : Nat → ClassId) (σ : tyS) : (wM ad cA σ)[11]? = some (ad 11, .inl (cA 11, 60, .inl (σ.1 11))) := rfl
theorem wMs_11 (ad : Nat → Nat) (cA : Nat → ClassId) (σ : tyS) : ∀ f, (wM ad cA σ).set 11 (ad 11, .inl (cA 11, 60, .inl f)) = wM ad cA (sA σ 11 f) := fun _ => rfl
theorem tM_11 (cA : Nat → ClassId) : (tM cA)[10]? = some (cA 11, .boolean) := rfl
theorem wM_12 (ad : Nat → Nat) (cA : Nat → ClassId) (σ : tyS) : (wM ad cA σ)[12]? = some (ad 12, .inl (cA 12, 60, .inl (σ.1 12))) := rfl
theorem wMs_12 (ad : Nat → Nat) (cA : Nat → ClassId) (σ : tyS) : ∀ f, (wM ad cA σ).set 12 (ad 12, .inl (cA 12, 60, .inl f)) = wM ad cA (sA σ 12 f) := fun _ => rfl
theorem tM_12 (cA : Nat → ClassId) : (tM cA)[11]? = some (cA 12, .int) := rfl
theorem wM_13 (ad : Nat → Nat) (cA : Nat → ClassId) (σ : tyS) : (wM ad cA σ)[13]? = some (ad 13, .inl (cA 13, 40, .inl (σ.1 13))) := rfl
theorem wMs_13 (ad : Nat → Nat) (cA : Nat → ClassId) (σ : tyS) : ∀ f, (wM ad cA σ).set 13 (ad 13, .inl (cA 13, 40, .inl f)) = wM ad cA (sA σ 13 f) := fun _ => rfl
theorem tM_13 (cA : Nat → ClassId) : (tM cA)[12]? = some (cA 13, .int) := rfl
theorem wM_14 (ad : Nat → Nat) (cA : Nat → ClassId) (σ : tyS) : (wM ad cA σ)[14]? = some (ad 14, .inl (cA 14, 40, .inl (σ.1 14))) := rfl
theorem wMs_14 (ad : Nat → Nat) (cA : Nat → ClassId) (σ : tyS) : ∀ f, (wM ad cA σ).set 14 (ad 14, .inl (cA 14, 40, .inl f)) = wM ad cA (sA σ 14 f) := fun _ => rfl
theorem tM_14 (cA : Nat → ClassId) : (tM cA)[13]? = some (cA 14, .int) := rfl
theorem wM_15 (ad : Nat → Nat) (cA : Nat → ClassId) (σ : tyS) : (wM ad cA σ)[15]? = some (ad 15, .inl (cA 15, 40, .inl (σ.1 15))) := rfl
theorem wMs_15 (ad : Nat → Nat) (cA : Nat → ClassId) (σ : tyS) : ∀ f, (wM ad cA σ).set 15 (ad 15, .inl (cA 15, 40, .inl f)) = wM ad cA (sA σ 15 f) := fun _ => rfl
theorem tM_15 (cA : Nat → ClassId) : (tM cA)[14]? = some (cA 15, .int) := rfl
theorem wM_16 (ad : Nat → Nat) (cA : Nat → ClassId) (σ : tyS) : (wM ad cA σ)[16]? = some (ad 16, .inl (cA 16, 40, .inl (σ.1 16))) := rfl
theorem wMs_16 (ad : Nat → Nat) (cA : Nat → ClassId) (σ : tyS) : ∀ f, (wM ad cA σ).set 16 (ad 16, .inl (cA 16, 40, .inl f)) = wM ad cA (sA σ 16 f) := fun _ => rfl
theorem tM_16 (cA : Nat → ClassId) : (tM cA)[15]? = some (cA 16, .int) := rfl
theorem wM_17 (ad : Nat → Nat) (cA : Nat → ClassId) (σ : tyS) : (wM ad cA σ)[17]? = some (ad 17, .inl (cA 17, 40, .inl (σ.1 17))) := rfl
theorem wMs_17 (ad : Nat → Nat) (cA : Nat → ClassId) (σ : tyS) : ∀ f, (wM ad cA σ).set 17 (ad 17, .inl (cA 17, 40, .inl f)) = wM ad cA (sA σ 17 f) := fun _ => rfl
theorem tM_17 (cA : Nat → ClassId) : (tM cA)[16]? = some (cA 17, .int) := rfl
theorem wM_18 (ad : Nat → Nat) (cA : Nat → ClassId) (σ : tyS) : (wM ad cA σ)[18]? = some (ad 18, .inl (cA 18, 40, .inl (σ.1 18))) := rfl
theorem wMs_18 (ad : Nat → Nat) (cA : Nat → ClassId) (σ : tyS) : ∀ f, (wM ad cA σ).set 18 (ad 18, .inl (cA 18, 40, .inl f)) = wM ad cA (sA σ 18 f) := fun _ => rfl
theorem tM_18 (cA : Nat → ClassId) : (tM cA)[17]? = some (cA 18, .int) := rfl
theorem wM_19 (ad : Nat → Nat) (cA : Nat → ClassId) (σ : tyS) : (wM ad cA σ)[19]? = some (ad 19, .inl (cA 19, 1200, .inl (σ.1 19))) := rfl
theorem wMs_19 (ad : Nat → Nat) (cA : Nat → ClassId) (σ : tyS) : ∀ f, (wM ad cA σ).set 19 (ad 19, .inl (cA 19, 1200, .inl f)) = wM ad cA (sA σ 19 f) := fun _ => rfl
theorem tM_19 (cA : Nat → ClassId) : (tM cA)[18]? = some (cA 19, .int) := rfl
theorem wM_20 (ad : Nat → Nat) (cA : Nat → ClassId) (σ : tyS) : (wM ad cA σ)[20]? = some (ad 20, .inl (cA 20, 40, .inl (σ.1 20))) := rfl
theorem wMs_20 (ad : Nat → Nat) (cA : Nat → ClassId) (σ : tyS) : ∀ f, (wM ad cA σ).set 20 (ad 20, .inl (cA 20, 40, .inl f)) = wM ad cA (sA σ 20 f) := fun _ => rfl
theorem tM_20 (cA : Nat → ClassId) : (tM cA)[19]? = some (cA 20, .int) := rfl
theorem wM_21 (ad : Nat → Nat) (cA : Nat → ClassId) (σ : tyS) : (wM ad cA σ)[21]? = some (ad 21, .inl (cA 21, 40, .inl (σ.1 21))) := rfl
theorem wMs_21 (ad : Nat → Nat) (cA : Nat → ClassId) (σ : tyS) : ∀ f, (wM ad cA σ).set 21 (ad 21, .inl (cA 21, 40, .inl f)) = wM ad cA (sA σ 21 f) := fun _ => rfl
theorem tM_21 (cA : Nat → ClassId) : (tM cA)[20]? = some (cA 21, .boolean) := rfl
theorem wM_22 (ad : Nat → Nat) (cA : Nat → ClassId) (σ : tyS) : (wM ad cA σ)[22]? = some (ad 22, .inl (cA 22, 40, .inl (σ.1 22))) := rfl
theorem wMs_22 (ad : Nat → Nat) (cA : Nat → ClassId) (σ : tyS) : ∀ f, (wM ad cA σ).set 22 (ad 22, .inl (cA 22, 40, .inl f)) = wM ad cA (sA σ 22 f) := fun _ => rfl
theorem tM_22 (cA : Nat → ClassId) : (tM cA)[21]? = some (cA 22, .int) := rfl
theorem wM_23 (ad : Nat → Nat) (cA : Nat → ClassId) (σ : tyS) : (wM ad cA σ)[23]? = some (ad 23, .inl (cA 23, 240, .inl (σ.1 23))) := rfl
theorem wMs_23 (ad : Nat → Nat) (cA : Nat → ClassId) (σ : tyS) : ∀ f, (wM ad cA σ).set 23 (ad 23, .inl (cA 23, 240, .inl f)) = wM ad cA (sA σ 23 f) := fun _ => rfl
theorem tM_23 (cA : Nat → ClassId) : (tM cA)[22]? = some (cA 23, .int) := rfl
theorem wMv_0 (ad : Nat → Nat) (cA : Nat → ClassId) (σ : tyS) (x : Int32) : (wM ad cA σ).set 0 (ad 0, .inr (5, (fM_0 ad σ).set 0 (.int x))) = wM ad cA (sV σ 0 x) := rfl
theorem wMv_1 (ad : Nat → Nat) (cA : Nat → ClassId) (σ : tyS) (x : Int32) : (wM ad cA σ).set 0 (ad 0, .inr (5, (fM_0 ad σ).set 1 (.int x))) = wM ad cA (sV σ 1 x) := rfl
theorem wMv_2 (ad : Nat → Nat) (cA : Nat → ClassId) (σ : tyS) (x : Int32) : (wM ad cA σ).set 0 (ad 0, .inr (5, (fM_0 ad σ).set 2 (.int x))) = wM ad cA (sV σ 2 x) := rfl
theorem wMv_3 (ad : Nat → Nat) (cA : Nat → ClassId) (σ : tyS) (x : Int32) : (wM ad cA σ).set 0 (ad 0, .inr (5, (fM_0 ad σ).set 11 (.int x))) = wM ad cA (sV σ 3 x) := rfl
theorem wMv_4 (ad : Nat → Nat) (cA : Nat → ClassId) (σ : tyS) (x : Int32) : (wM ad cA σ).set 0 (ad 0, .inr (5, (fM_0 ad σ).set 12 (.int x))) = wM ad cA (sV σ 4 x) := rfl
theorem wMv_5 (ad : Nat → Nat) (cA : Nat → ClassId) (σ : tyS) (x : Int32) : (wM ad cA σ).set 0 (ad 0, .inr (5, (fM_0 ad σ).set 17 (.int x))) = wM ad cA (sV σ 5 x) := rfl
theorem wMv_6 (ad : Nat → Nat) (cA : Nat → ClassId) (σ : tyS) (x : Int32) : (wM ad cA σ).set 0 (ad 0, .inr (5, (fM_0 ad σ).set 25 (.int x))) = wM ad cA (sV σ 6 x) := rfl
def gStr : List (String × Nat × String) := [(RX4, 75, "no wagon or no room is left"), (RX4, 88, "the tracks are the same, or many is out of range"), (RX4, 95, "not so many wagons, or not so much room"), (RX4, 105, "there is no wagon"), (RX4, 114, "a grain is out of range, or both are the same"), (RX4, 143, "the customer has a call, or there were too many"), (RX4, 154, "grain is out of range"), (RX4, 166, "another grain, or too many bookings"), (RX4, 187, "no booking is open"), (RX4, 199, "the booking can\'t be taken up in this call"), (RX4, 204, "the booking can\'t be cancelled in this call"), (RX4, 224, "the trunk is cut"), (RX4, 232, "the trunk is not cut"), (RX4, 234, "lines is out of range"), (RX4, 239, "more calls to the yard go on"), (RX4, 244, "ticks is out of range"), (RX4, 249, "too many ticks would have gone by"), (RX4, 263, "the booking has no such wagon"), (RX4, 267, "the booking is not half"), (RX4, 272, "both yards are the same"), (RX4, 280, "no train can depart from the track"), (RX4, 285, "there never was such a train"), (RX4, 290, "track is out of range"), (RX4, 292, "the train has arrived, or the track has not enough room"), (RX4, 300, "yard is out of range"), (RX4, 302, "yard or track is out of range"), (RX4, 304, "customer is out of range"), (RX4, 309, "there is no such trunk"), (RX4, 311, "there is no such wagon"), (RX4, 316, "there never was such a call"), (RX4, 321, "the call does not go on"), (RX4, 323, "there never was such a booking"), (RX4, 325, "there is no wagon at place")]
/-! the words of the throws -/
theorem gnoX4_77 : ∀ w ∈ (vx_atS RX4 77 "java/lang/IllegalStateException" gNms).filter (fun w => !goodWord w), w ∈ gNw := by decide +kernel
theorem ggdX4_73_77 : ∀ w ∈ Cond.classLink RX4 73 "java/lang/IllegalStateException" :: Cond.initialized "java/lang/IllegalStateException" :: vx_atS RX4 77 "java/lang/IllegalStateException" gNms, vx_ot w = true := by decide +kernel
theorem gnoX4_90 : ∀ w ∈ (vx_atS RX4 90 "java/lang/IllegalArgumentException" gNms).filter (fun w => !goodWord w), w ∈ gNw := by decide +kernel
theorem ggdX4_86_90 : ∀ w ∈ Cond.classLink RX4 86 "java/lang/IllegalArgumentException" :: Cond.initialized "java/lang/IllegalArgumentException" :: vx_atS RX4 90 "java/lang/IllegalArgumentException" gNms, vx_ot w = true := by decide +kernel
theorem gnoX4_265 : ∀ w ∈ (vx_atS RX4 265 "java/lang/IndexOutOfBoundsException" gNms).filter (fun w => !goodWord w), w ∈ gNw := by decide +kernel
theorem ggdX4_261_265 : ∀ w ∈ Cond.classLink RX4 261 "java/lang/IndexOutOfBoundsException" :: Cond.initialized "java/lang/IndexOutOfBoundsException" :: vx_atS RX4 265 "java/lang/IndexOutOfBoundsException" gNms, vx_ot w = true := by decide +kernel
/-! the callees' descriptors -/
theorem hd_X0_noteMove : yX0_noteMove.cls = RX0 ∧ yX0_noteMove.cls ≠ "java/lang/invoke/MethodHandle" ∧ yX0_noteMove.cls ≠ "java/lang/invoke/VarHandle" ∧ (parseMethodDescriptor yX0_noteMove.desc).map (fun d => d.parameters.length) = some 3 := by decide +kernel
theorem hd_X0_notePlacing : yX0_notePlacing.cls = RX0 ∧ yX0_notePlacing.cls ≠ "java/lang/invoke/MethodHandle" ∧ yX0_notePlacing.cls ≠ "java/lang/invoke/VarHandle" ∧ (parseMethodDescriptor yX0_notePlacing.desc).map (fun d => d.parameters.length) = some 2 := by decide +kernel
theorem hd_X0_replay : yX0_replay.cls = RX0 ∧ yX0_replay.cls ≠ "java/lang/invoke/MethodHandle" ∧ yX0_replay.cls ≠ "java/lang/invoke/VarHandle" ∧ (parseMethodDescriptor yX0_replay.desc).map (fun d => d.parameters.length) = some 1 := by decide +kernel
theorem hd_X1_add : yX1_add.cls = RX1 ∧ yX1_add.cls ≠ "java/lang/invoke/MethodHandle" ∧ yX1_add.cls ≠ "java/lang/invoke/VarHandle" ∧ (parseMethodDescriptor yX1_add.desc).map (fun d => d.parameters.length) = some 2 := by decide +kernel
theorem hd_X1_bookingFor : yX1_bookingFor.cls = RX1 ∧ yX1_bookingFor.cls ≠ "java/lang/invoke/MethodHandle" ∧ yX1_bookingFor.cls ≠ "java/lang/invoke/VarHandle" ∧ (parseMethodDescriptor yX1_bookingFor.desc).map (fun d => d.parameters.length) = some 1 := by decide +kernel
theorem hd_X1_customer : yX1_customer.cls = RX1 ∧ yX1_customer.cls ≠ "java/lang/invoke/MethodHandle" ∧ yX1_customer.cls ≠ "java/lang/invoke/VarHandle" ∧ (parseMethodDescriptor yX1_customer.desc).map (fun d => d.parameters.length) = some 1 := by decide +kernel
theorem hd_X1_get : yX1_get.cls = RX1 ∧ yX1_get.cls ≠ "java/lang/invoke/MethodHandle" ∧ yX1_get.cls ≠ "java/lang/invoke/VarHandle" ∧ (parseMethodDescriptor yX1_get.desc).map (fun d => d.parameters.length) = some 2 := by decide +kernel
theorem hd_X1_grain : yX1_grain.cls = RX1 ∧ yX1_grain.cls ≠ "java/lang/invoke/MethodHandle" ∧ yX1_grain.cls ≠ "java/lang/invoke/VarHandle" ∧ (parseMethodDescriptor yX1_grain.desc).map (fun d => d.parameters.length) = some 1 := by decide +kernel
theorem hd_X1_halve : yX1_halve.cls = RX1 ∧ yX1_halve.cls ≠ "java/lang/invoke/MethodHandle" ∧ yX1_halve.cls ≠ "java/lang/invoke/VarHandle" ∧ (parseMethodDescriptor yX1_halve.desc).map (fun d => d.parameters.length) = some 2 := by decide +kernel
theorem hd_X1_isFull : yX1_isFull.cls = RX1 ∧ yX1_isFull.cls ≠ "java/lang/invoke/MethodHandle" ∧ yX1_isFull.cls ≠ "java/lang/invoke/VarHandle" ∧ (parseMethodDescriptor yX1_isFull.desc).map (fun d => d.parameters.length) = some 0 := by decide +kernel
theorem hd_X1_keep : yX1_keep.cls = RX1 ∧ yX1_keep.cls ≠ "java/lang/invoke/MethodHandle" ∧ yX1_keep.cls ≠ "java/lang/invoke/VarHandle" ∧ (parseMethodDescriptor yX1_keep.desc).map (fun d => d.parameters.length) = some 2 := by decide +kernel
theorem hd_X1_lapseAll : yX1_lapseAll.cls = RX1 ∧ yX1_lapseAll.cls ≠ "java/lang/invoke/MethodHandle" ∧ yX1_lapseAll.cls ≠ "java/lang/invoke/VarHandle" ∧ (parseMethodDescriptor yX1_lapseAll.desc).map (fun d => d.parameters.length) = some 1 := by decide +kernel
theorem hd_X1_lapseTick : yX1_lapseTick.cls = RX1 ∧ yX1_lapseTick.cls ≠ "java/lang/invoke/MethodHandle" ∧ yX1_lapseTick.cls ≠ "java/lang/invoke/VarHandle" ∧ (parseMethodDescriptor yX1_lapseTick.desc).map (fun d => d.parameters.length) = some 1 := by decide +kernel
theorem hd_X1_open : yX1_open.cls = RX1 ∧ yX1_open.cls ≠ "java/lang/invoke/MethodHandle" ∧ yX1_open.cls ≠ "java/lang/invoke/VarHandle" ∧ (parseMethodDescriptor yX1_open.desc).map (fun d => d.parameters.length) = some 3 := by decide +kernel
theorem hd_X1_opened : yX1_opened.cls = RX1 ∧ yX1_opened.cls ≠ "java/lang/invoke/MethodHandle" ∧ yX1_opened.cls ≠ "java/lang/invoke/VarHandle" ∧ (parseMethodDescriptor yX1_opened.desc).map (fun d => d.parameters.length) = some 0 := by decide +kernel
theorem hd_X1_release : yX1_release.cls = RX1 ∧ yX1_release.cls ≠ "java/lang/invoke/MethodHandle" ∧ yX1_release.cls ≠ "java/lang/invoke/VarHandle" ∧ (parseMethodDescriptor yX1_release.desc).map (fun d => d.parameters.length) = some 2 := by decide +kernel
theorem hd_X1_size : yX1_size.cls = RX1 ∧ yX1_size.cls ≠ "java/lang/invoke/MethodHandle" ∧ yX1_size.cls ≠ "java/lang/invoke/VarHandle" ∧ (parseMethodDescriptor yX1_size.desc).map (fun d => d.parameters.length) = some 1 := by decide +kernel
theorem hd_X1_standing : yX1_standing.cls = RX1 ∧ yX1_standing.cls ≠ "java/lang/invoke/MethodHandle" ∧ yX1_standing.cls ≠ "java/lang/invoke/VarHandle" ∧ (parseMethodDescriptor yX1_standing.desc).map (fun d => d.parameters.length) = some 1 := by decide +kernel
theorem hd_X1_yard : yX1_yard.cls = RX1 ∧ yX1_yard.cls ≠ "java/lang/invoke/MethodHandle" ∧ yX1_yard.cls ≠ "java/lang/invoke/VarHandle" ∧ (parseMethodDescriptor yX1_yard.desc).map (fun d => d.parameters.length) = some 1 := by decide +kernel
theorem hd_X2_clear : yX2_clear.cls = RX2 ∧ yX2_clear.cls ≠ "java/lang/invoke/MethodHandle" ∧ yX2_clear.cls ≠ "java/lang/invoke/VarHandle" ∧ (parseMethodDescriptor yX2_clear.desc).map (fun d => d.parameters.length) = some 0 := by decide +kernel
theorem hd_X2_count : yX2_count.cls = RX2 ∧ yX2_count.cls ≠ "java/lang/invoke/MethodHandle" ∧ yX2_count.cls ≠ "java/lang/invoke/VarHandle" ∧ (parseMethodDescriptor yX2_count.desc).map (fun d => d.parameters.length) = some 1 := by decide +kernel
theorem hd_X2_findOnTracks : yX2_findOnTracks.cls = RX2 ∧ yX2_findOnTracks.cls ≠ "java/lang/invoke/MethodHandle" ∧ yX2_findOnTracks.cls ≠ "java/lang/invoke/VarHandle" ∧ (parseMethodDescriptor yX2_findOnTracks.desc).map (fun d => d.parameters.length) = some 1 := by decide +kernel
theorem hd_X2_get : yX2_get.cls = RX2 ∧ yX2_get.cls ≠ "java/lang/invoke/MethodHandle" ∧ yX2_get.cls ≠ "java/lang/invoke/VarHandle" ∧ (parseMethodDescriptor yX2_get.desc).map (fun d => d.parameters.length) = some 2 := by decide +kernel
theorem hd_X2_hasRoom : yX2_hasRoom.cls = RX2 ∧ yX2_hasRoom.cls ≠ "java/lang/invoke/MethodHandle" ∧ yX2_hasRoom.cls ≠ "java/lang/invoke/VarHandle" ∧ (parseMethodDescriptor yX2_hasRoom.desc).map (fun d => d.parameters.length) = some 2 := by decide +kernel
theorem hd_X2_move : yX2_move.cls = RX2 ∧ yX2_move.cls ≠ "java/lang/invoke/MethodHandle" ∧ yX2_move.cls ≠ "java/lang/invoke/VarHandle" ∧ (parseMethodDescriptor yX2_move.desc).map (fun d => d.parameters.length) = some 3 := by decide +kernel
theorem hd_X2_put : yX2_put.cls = RX2 ∧ yX2_put.cls ≠ "java/lang/invoke/MethodHandle" ∧ yX2_put.cls ≠ "java/lang/invoke/VarHandle" ∧ (parseMethodDescriptor yX2_put.desc).map (fun d => d.parameters.length) = some 2 := by decide +kernel
theorem hd_X3_begin : yX3_begin.cls = RX3 ∧ yX3_begin.cls ≠ "java/lang/invoke/MethodHandle" ∧ yX3_begin.cls ≠ "java/lang/invoke/VarHandle" ∧ (parseMethodDescriptor yX3_begin.desc).map (fun d => d.parameters.length) = some 2 := by decide +kernel
theorem hd_X3_callsTo : yX3_callsTo.cls = RX3 ∧ yX3_callsTo.cls ≠ "java/lang/invoke/MethodHandle" ∧ yX3_callsTo.cls ≠ "java/lang/invoke/VarHandle" ∧ (parseMethodDescriptor yX3_callsTo.desc).map (fun d => d.parameters.length) = some 1 := by decide +kernel
theorem hd_X3_changeLines : yX3_changeLines.cls = RX3 ∧ yX3_changeLines.cls ≠ "java/lang/invoke/MethodHandle" ∧ yX3_changeLines.cls ≠ "java/lang/invoke/VarHandle" ∧ (parseMethodDescriptor yX3_changeLines.desc).map (fun d => d.parameters.length) = some 2 := by decide +kernel
theorem hd_X3_connect : yX3_connect.cls = RX3 ∧ yX3_connect.cls ≠ "java/lang/invoke/MethodHandle" ∧ yX3_connect.cls ≠ "java/lang/invoke/VarHandle" ∧ (parseMethodDescriptor yX3_connect.desc).map (fun d => d.parameters.length) = some 4 := by decide +kernel
theorem hd_X3_customer : yX3_customer.cls = RX3 ∧ yX3_customer.cls ≠ "java/lang/invoke/MethodHandle" ∧ yX3_customer.cls ≠ "java/lang/invoke/VarHandle" ∧ (parseMethodDescriptor yX3_customer.desc).map (fun d => d.parameters.length) = some 1 := by decide +kernel
theorem hd_X3_end : yX3_end.cls = RX3 ∧ yX3_end.cls ≠ "java/lang/invoke/MethodHandle" ∧ yX3_end.cls ≠ "java/lang/invoke/VarHandle" ∧ (parseMethodDescriptor yX3_end.desc).map (fun d => d.parameters.length) = some 1 := by decide +kernel
theorem hd_X3_freeTrunk : yX3_freeTrunk.cls = RX3 ∧ yX3_freeTrunk.cls ≠ "java/lang/invoke/MethodHandle" ∧ yX3_freeTrunk.cls ≠ "java/lang/invoke/VarHandle" ∧ (parseMethodDescriptor yX3_freeTrunk.desc).map (fun d => d.parameters.length) = some 2 := by decide +kernel
theorem hd_X3_goesOn : yX3_goesOn.cls = RX3 ∧ yX3_goesOn.cls ≠ "java/lang/invoke/MethodHandle" ∧ yX3_goesOn.cls ≠ "java/lang/invoke/VarHandle" ∧ (parseMethodDescriptor yX3_goesOn.desc).map (fun d => d.parameters.length) = some 1 := by decide +kernel
theorem hd_X3_hasBegun : yX3_hasBegun.cls = RX3 ∧ yX3_hasBegun.cls ≠ "java/lang/invoke/MethodHandle" ∧ yX3_hasBegun.cls ≠ "java/lang/invoke/VarHandle" ∧ (parseMethodDescriptor yX3_hasBegun.desc).map (fun d => d.parameters.length) = some 1 := by decide +kernel
theorem hd_X3_isFull : yX3_isFull.cls = RX3 ∧ yX3_isFull.cls ≠ "java/lang/invoke/MethodHandle" ∧ yX3_isFull.cls ≠ "java/lang/invoke/VarHandle" ∧ (parseMethodDescriptor yX3_isFull.desc).map (fun d => d.parameters.length) = some 0 := by decide +kernel
theorem hd_X3_occupy : yX3_occupy.cls = RX3 ∧ yX3_occupy.cls ≠ "java/lang/invoke/MethodHandle" ∧ yX3_occupy.cls ≠ "java/lang/invoke/VarHandle" ∧ (parseMethodDescriptor yX3_occupy.desc).map (fun d => d.parameters.length) = some 2 := by decide +kernel
theorem hd_X3_ongoing : yX3_ongoing.cls = RX3 ∧ yX3_ongoing.cls ≠ "java/lang/invoke/MethodHandle" ∧ yX3_ongoing.cls ≠ "java/lang/invoke/VarHandle" ∧ (parseMethodDescriptor yX3_ongoing.desc).map (fun d => d.parameters.length) = some 1 := by decide +kernel
theorem hd_X3_openBooking : yX3_openBooking.cls = RX3 ∧ yX3_openBooking.cls ≠ "java/lang/invoke/MethodHandle" ∧ yX3_openBooking.cls ≠ "java/lang/invoke/VarHandle" ∧ (parseMethodDescriptor yX3_openBooking.desc).map (fun d => d.parameters.length) = some 1 := by decide +kernel
theorem hd_X3_setOpenBooking : yX3_setOpenBooking.cls = RX3 ∧ yX3_setOpenBooking.cls ≠ "java/lang/invoke/MethodHandle" ∧ yX3_setOpenBooking.cls ≠ "java/lang/invoke/VarHandle" ∧ (parseMethodDescriptor yX3_setOpenBooking.desc).map (fun d => d.parameters.length) = some 2 := by decide +kernel
theorem hd_X3_setTrunk : yX3_setTrunk.cls = RX3 ∧ yX3_setTrunk.cls ≠ "java/lang/invoke/MethodHandle" ∧ yX3_setTrunk.cls ≠ "java/lang/invoke/VarHandle" ∧ (parseMethodDescriptor yX3_setTrunk.desc).map (fun d => d.parameters.length) = some 2 := by decide +kernel
theorem hd_X3_trunkHas : yX3_trunkHas.cls = RX3 ∧ yX3_trunkHas.cls ≠ "java/lang/invoke/MethodHandle" ∧ yX3_trunkHas.cls ≠ "java/lang/invoke/VarHandle" ∧ (parseMethodDescriptor yX3_trunkHas.desc).map (fun d => d.parameters.length) = some 1 := by decide +kernel
theorem hd_X3_trunksOf : yX3_trunksOf.cls = RX3 ∧ yX3_trunksOf.cls ≠ "java/lang/invoke/MethodHandle" ∧ yX3_trunksOf.cls ≠ "java/lang/invoke/VarHandle" ∧ (parseMethodDescriptor yX3_trunksOf.desc).map (fun d => d.parameters.length) = some 1 := by decide +kernel
theorem hd_X3_yard : yX3_yard.cls = RX3 ∧ yX3_yard.cls ≠ "java/lang/invoke/MethodHandle" ∧ yX3_yard.cls ≠ "java/lang/invoke/VarHandle" ∧ (parseMethodDescriptor yX3_yard.desc).map (fun d => d.parameters.length) = some 1 := by decide +kernel
theorem hd_X4_canDepart : yX4_canDepart.cls = RX4 ∧ yX4_canDepart.cls ≠ "java/lang/invoke/MethodHandle" ∧ yX4_canDepart.cls ≠ "java/lang/invoke/VarHandle" ∧ (parseMethodDescriptor yX4_canDepart.desc).map (fun d => d.parameters.length) = some 1 := by decide +kernel
theorem hd_X4_cutOff : yX4_cutOff.cls = RX4 ∧ yX4_cutOff.cls ≠ "java/lang/invoke/MethodHandle" ∧ yX4_cutOff.cls ≠ "java/lang/invoke/VarHandle" ∧ (parseMethodDescriptor yX4_cutOff.desc).map (fun d => d.parameters.length) = some 1 := by decide +kernel
theorem hd_X4_findWagon : yX4_findWagon.cls = RX4 ∧ yX4_findWagon.cls ≠ "java/lang/invoke/MethodHandle" ∧ yX4_findWagon.cls ≠ "java/lang/invoke/VarHandle" ∧ (parseMethodDescriptor yX4_findWagon.desc).map (fun d => d.parameters.length) = some 2 := by decide +kernel
theorem hd_X4_fits : yX4_fits.cls = RX4 ∧ yX4_fits.cls ≠ "java/lang/invoke/MethodHandle" ∧ yX4_fits.cls ≠ "java/lang/invoke/VarHandle" ∧ (parseMethodDescriptor yX4_fits.desc).map (fun d => d.parameters.length) = some 2 := by decide +kernel
theorem hd_X4_isExchange : yX4_isExchange.cls ≠ "java/lang/invoke/MethodHandle" ∧ yX4_isExchange.cls ≠ "java/lang/invoke/VarHandle" ∧ (parseMethodDescriptor yX4_isExchange.desc).map (fun d => d.parameters.length) = some 1 := by decide +kernel
theorem hd_X4_isGrain : yX4_isGrain.cls ≠ "java/lang/invoke/MethodHandle" ∧ yX4_isGrain.cls ≠ "java/lang/invoke/VarHandle" ∧ (parseMethodDescriptor yX4_isGrain.desc).map (fun d => d.parameters.length) = some 1 := by decide +kernel
theorem hd_X4_isTrack : yX4_isTrack.cls ≠ "java/lang/invoke/MethodHandle" ∧ yX4_isTrack.cls ≠ "java/lang/invoke/VarHandle" ∧ (parseMethodDescriptor yX4_isTrack.desc).map (fun d => d.parameters.length) = some 1 := by decide +kernel
theorem hd_X4_isWithin : yX4_isWithin.cls = RX4 ∧ yX4_isWithin.cls ≠ "java/lang/invoke/MethodHandle" ∧ yX4_isWithin.cls ≠ "java/lang/invoke/VarHandle" ∧ (parseMethodDescriptor yX4_isWithin.desc).map (fun d => d.parameters.length) = some 3 := by decide +kernel
theorem hd_X4_isYard : yX4_isYard.cls ≠ "java/lang/invoke/MethodHandle" ∧ yX4_isYard.cls ≠ "java/lang/invoke/VarHandle" ∧ (parseMethodDescriptor yX4_isYard.desc).map (fun d => d.parameters.length) = some 1 := by decide +kernel
theorem hd_X4_load : yX4_load.cls = RX4 ∧ yX4_load.cls ≠ "java/lang/invoke/MethodHandle" ∧ yX4_load.cls ≠ "java/lang/invoke/VarHandle" ∧ (parseMethodDescriptor yX4_load.desc).map (fun d => d.parameters.length) = some 1 := by decide +kernel
theorem hd_X4_moveLast : yX4_moveLast.cls = RX4 ∧ yX4_moveLast.cls ≠ "java/lang/invoke/MethodHandle" ∧ yX4_moveLast.cls ≠ "java/lang/invoke/VarHandle" ∧ (parseMethodDescriptor yX4_moveLast.desc).map (fun d => d.parameters.length) = some 3 := by decide +kernel
theorem hd_X4_requireBooking : yX4_requireBooking.cls = RX4 ∧ yX4_requireBooking.cls ≠ "java/lang/invoke/MethodHandle" ∧ yX4_requireBooking.cls ≠ "java/lang/invoke/VarHandle" ∧ (parseMethodDescriptor yX4_requireBooking.desc).map (fun d => d.parameters.length) = some 1 := by decide +kernel
theorem hd_X4_requireCall : yX4_requireCall.cls = RX4 ∧ yX4_requireCall.cls ≠ "java/lang/invoke/MethodHandle" ∧ yX4_requireCall.cls ≠ "java/lang/invoke/VarHandle" ∧ (parseMethodDescriptor yX4_requireCall.desc).map (fun d => d.parameters.length) = some 1 := by decide +kernel
theorem hd_X4_requireCustomer : yX4_requireCustomer.cls ≠ "java/lang/invoke/MethodHandle" ∧ yX4_requireCustomer.cls ≠ "java/lang/invoke/VarHandle" ∧ (parseMethodDescriptor yX4_requireCustomer.desc).map (fun d => d.parameters.length) = some 1 := by decide +kernel
theorem hd_X4_requireOngoing : yX4_requireOngoing.cls = RX4 ∧ yX4_requireOngoing.cls ≠ "java/lang/invoke/MethodHandle" ∧ yX4_requireOngoing.cls ≠ "java/lang/invoke/VarHandle" ∧ (parseMethodDescriptor yX4_requireOngoing.desc).map (fun d => d.parameters.length) = some 1 := by decide +kernel
theorem hd_X4_requireTrack : yX4_requireTrack.cls ≠ "java/lang/invoke/MethodHandle" ∧ yX4_requireTrack.cls ≠ "java/lang/invoke/VarHandle" ∧ (parseMethodDescriptor yX4_requireTrack.desc).map (fun d => d.parameters.length) = some 2 := by decide +kernel
theorem hd_X4_requireTrunk : yX4_requireTrunk.cls ≠ "java/lang/invoke/MethodHandle" ∧ yX4_requireTrunk.cls ≠ "java/lang/invoke/VarHandle" ∧ (parseMethodDescriptor yX4_requireTrunk.desc).map (fun d => d.parameters.length) = some 3 := by decide +kernel
theorem hd_X4_requireWagon : yX4_requireWagon.cls = RX4 ∧ yX4_requireWagon.cls ≠ "java/lang/invoke/MethodHandle" ∧ yX4_requireWagon.cls ≠ "java/lang/invoke/VarHandle" ∧ (parseMethodDescriptor yX4_requireWagon.desc).map (fun d => d.parameters.length) = some 1 := by decide +kernel
theorem hd_X4_requireYard : yX4_requireYard.cls ≠ "java/lang/invoke/MethodHandle" ∧ yX4_requireYard.cls ≠ "java/lang/invoke/VarHandle" ∧ (parseMethodDescriptor yX4_requireYard.desc).map (fun d => d.parameters.length) = some 1 := by decide +kernel
theorem hd_X4_rowOf : yX4_rowOf.cls ≠ "java/lang/invoke/MethodHandle" ∧ yX4_rowOf.cls ≠ "java/lang/invoke/VarHandle" ∧ (parseMethodDescriptor yX4_rowOf.desc).map (fun d => d.parameters.length) = some 2 := by decide +kernel
theorem hd_X4_slotOf : yX4_slotOf.cls ≠ "java/lang/invoke/MethodHandle" ∧ yX4_slotOf.cls ≠ "java/lang/invoke/VarHandle" ∧ (parseMethodDescriptor yX4_slotOf.desc).map (fun d => d.parameters.length) = some 3 := by decide +kernel
theorem hd_X4_standsWhole : yX4_standsWhole.cls = RX4 ∧ yX4_standsWhole.cls ≠ "java/lang/invoke/MethodHandle" ∧ yX4_standsWhole.cls ≠ "java/lang/invoke/VarHandle" ∧ (parseMethodDescriptor yX4_standsWhole.desc).map (fun d => d.parameters.length) = some 2 := by decide +kernel
theorem hd_X4_unload : yX4_unload.cls = RX4 ∧ yX4_unload.cls ≠ "java/lang/invoke/MethodHandle" ∧ yX4_unload.cls ≠ "java/lang/invoke/VarHandle" ∧ (parseMethodDescriptor yX4_unload.desc).map (fun d => d.parameters.length) = some 1 := by decide +kernel
theorem hd_X4_wagonIn : yX4_wagonIn.cls ≠ "java/lang/invoke/MethodHandle" ∧ yX4_wagonIn.cls ≠ "java/lang/invoke/VarHandle" ∧ (parseMethodDescriptor yX4_wagonIn.desc).map (fun d => d.parameters.length) = some 3 := by decide +kernel
theorem hd_X5_adds : yX5_adds.cls = RX5 ∧ yX5_adds.cls ≠ "java/lang/invoke/MethodHandle" ∧ yX5_adds.cls ≠ "java/lang/invoke/VarHandle" ∧ (parseMethodDescriptor yX5_adds.desc).map (fun d => d.parameters.length) = some 2 := by decide +kernel
theorem hd_X5_areOn : yX5_areOn.cls = RX5 ∧ yX5_areOn.cls ≠ "java/lang/invoke/MethodHandle" ∧ yX5_areOn.cls ≠ "java/lang/invoke/VarHandle" ∧ (parseMethodDescriptor yX5_areOn.desc).map (fun d => d.parameters.length) = some 2 := by decide +kernel
theorem hd_X5_asksBooking : yX5_asksBooking.cls = RX5 ∧ yX5_asksBooking.cls ≠ "java/lang/invoke/MethodHandle" ∧ yX5_asksBooking.cls ≠ "java/lang/invoke/VarHandle" ∧ (parseMethodDescriptor yX5_asksBooking.desc).map (fun d => d.parameters.length) = some 1 := by decide +kernel
theorem hd_X5_asksWagon : yX5_asksWagon.cls = RX5 ∧ yX5_asksWagon.cls ≠ "java/lang/invoke/MethodHandle" ∧ yX5_asksWagon.cls ≠ "java/lang/invoke/VarHandle" ∧ (parseMethodDescriptor yX5_asksWagon.desc).map (fun d => d.parameters.length) = some 1 := by decide +kernel
theorem hd_X5_between : yX5_between.cls ≠ "java/lang/invoke/MethodHandle" ∧ yX5_between.cls ≠ "java/lang/invoke/VarHandle" ∧ (parseMethodDescriptor yX5_between.desc).map (fun d => d.parameters.length) = some 2 := by decide +kernel
theorem hd_X5_callNow : yX5_callNow.cls = RX5 ∧ yX5_callNow.cls ≠ "java/lang/invoke/MethodHandle" ∧ yX5_callNow.cls ≠ "java/lang/invoke/VarHandle" ∧ (parseMethodDescriptor yX5_callNow.desc).map (fun d => d.parameters.length) = some 1 := by decide +kernel
theorem hd_X5_callsTo : yX5_callsTo.cls = RX5 ∧ yX5_callsTo.cls ≠ "java/lang/invoke/MethodHandle" ∧ yX5_callsTo.cls ≠ "java/lang/invoke/VarHandle" ∧ (parseMethodDescriptor yX5_callsTo.desc).map (fun d => d.parameters.length) = some 1 := by decide +kernel
theorem hd_X5_canDepart : yX5_canDepart.cls = RX5 ∧ yX5_canDepart.cls ≠ "java/lang/invoke/MethodHandle" ∧ yX5_canDepart.cls ≠ "java/lang/invoke/VarHandle" ∧ (parseMethodDescriptor yX5_canDepart.desc).map (fun d => d.parameters.length) = some 2 := by decide +kernel
theorem hd_X5_ends : yX5_ends.cls = RX5 ∧ yX5_ends.cls ≠ "java/lang/invoke/MethodHandle" ∧ yX5_ends.cls ≠ "java/lang/invoke/VarHandle" ∧ (parseMethodDescriptor yX5_ends.desc).map (fun d => d.parameters.length) = some 1 := by decide +kernel
theorem hd_X5_finds : yX5_finds.cls = RX5 ∧ yX5_finds.cls ≠ "java/lang/invoke/MethodHandle" ∧ yX5_finds.cls ≠ "java/lang/invoke/VarHandle" ∧ (parseMethodDescriptor yX5_finds.desc).map (fun d => d.parameters.length) = some 2 := by decide +kernel
theorem hd_X5_fits : yX5_fits.cls = RX5 ∧ yX5_fits.cls ≠ "java/lang/invoke/MethodHandle" ∧ yX5_fits.cls ≠ "java/lang/invoke/VarHandle" ∧ (parseMethodDescriptor yX5_fits.desc).map (fun d => d.parameters.length) = some 2 := by decide +kernel
theorem hd_X5_freeBetween : yX5_freeBetween.cls = RX5 ∧ yX5_freeBetween.cls ≠ "java/lang/invoke/MethodHandle" ∧ yX5_freeBetween.cls ≠ "java/lang/invoke/VarHandle" ∧ (parseMethodDescriptor yX5_freeBetween.desc).map (fun d => d.parameters.length) = some 2 := by decide +kernel
theorem hd_X5_in : yX5_in.cls ≠ "java/lang/invoke/MethodHandle" ∧ yX5_in.cls ≠ "java/lang/invoke/VarHandle" ∧ (parseMethodDescriptor yX5_in.desc).map (fun d => d.parameters.length) = some 3 := by decide +kernel
theorem hd_X5_isBooking : yX5_isBooking.cls = RX5 ∧ yX5_isBooking.cls ≠ "java/lang/invoke/MethodHandle" ∧ yX5_isBooking.cls ≠ "java/lang/invoke/VarHandle" ∧ (parseMethodDescriptor yX5_isBooking.desc).map (fun d => d.parameters.length) = some 1 := by decide +kernel
theorem hd_X5_isCall : yX5_isCall.cls = RX5 ∧ yX5_isCall.cls ≠ "java/lang/invoke/MethodHandle" ∧ yX5_isCall.cls ≠ "java/lang/invoke/VarHandle" ∧ (parseMethodDescriptor yX5_isCall.desc).map (fun d => d.parameters.length) = some 1 := by decide +kernel
theorem hd_X5_isGrain : yX5_isGrain.cls ≠ "java/lang/invoke/MethodHandle" ∧ yX5_isGrain.cls ≠ "java/lang/invoke/VarHandle" ∧ (parseMethodDescriptor yX5_isGrain.desc).map (fun d => d.parameters.length) = some 1 := by decide +kernel
theorem hd_X5_isOf : yX5_isOf.cls = RX5 ∧ yX5_isOf.cls ≠ "java/lang/invoke/MethodHandle" ∧ yX5_isOf.cls ≠ "java/lang/invoke/VarHandle" ∧ (parseMethodDescriptor yX5_isOf.desc).map (fun d => d.parameters.length) = some 2 := by decide +kernel
theorem hd_X5_isPromised : yX5_isPromised.cls = RX5 ∧ yX5_isPromised.cls ≠ "java/lang/invoke/MethodHandle" ∧ yX5_isPromised.cls ≠ "java/lang/invoke/VarHandle" ∧ (parseMethodDescriptor yX5_isPromised.desc).map (fun d => d.parameters.length) = some 1 := by decide +kernel
theorem hd_X5_isTrack : yX5_isTrack.cls ≠ "java/lang/invoke/MethodHandle" ∧ yX5_isTrack.cls ≠ "java/lang/invoke/VarHandle" ∧ (parseMethodDescriptor yX5_isTrack.desc).map (fun d => d.parameters.length) = some 2 := by decide +kernel
theorem hd_X5_isTrunk : yX5_isTrunk.cls ≠ "java/lang/invoke/MethodHandle" ∧ yX5_isTrunk.cls ≠ "java/lang/invoke/VarHandle" ∧ (parseMethodDescriptor yX5_isTrunk.desc).map (fun d => d.parameters.length) = some 3 := by decide +kernel
theorem hd_X5_isWagon : yX5_isWagon.cls = RX5 ∧ yX5_isWagon.cls ≠ "java/lang/invoke/MethodHandle" ∧ yX5_isWagon.cls ≠ "java/lang/invoke/VarHandle" ∧ (parseMethodDescriptor yX5_isWagon.desc).map (fun d => d.parameters.length) = some 1 := by decide +kernel
theorem hd_X5_isYard : yX5_isYard.cls ≠ "java/lang/invoke/MethodHandle" ∧ yX5_isYard.cls ≠ "java/lang/invoke/VarHandle" ∧ (parseMethodDescriptor yX5_isYard.desc).map (fun d => d.parameters.length) = some 1 := by decide +kernel
theorem hd_X5_puts : yX5_puts.cls = RX5 ∧ yX5_puts.cls ≠ "java/lang/invoke/MethodHandle" ∧ yX5_puts.cls ≠ "java/lang/invoke/VarHandle" ∧ (parseMethodDescriptor yX5_puts.desc).map (fun d => d.parameters.length) = some 3 := by decide +kernel
theorem hd_X5_takesWay : yX5_takesWay.cls = RX5 ∧ yX5_takesWay.cls ≠ "java/lang/invoke/MethodHandle" ∧ yX5_takesWay.cls ≠ "java/lang/invoke/VarHandle" ∧ (parseMethodDescriptor yX5_takesWay.desc).map (fun d => d.parameters.length) = some 2 := by decide +kernel
theorem hd_X5_wagonAt : yX5_wagonAt.cls = RX5 ∧ yX5_wagonAt.cls ≠ "java/lang/invoke/MethodHandle" ∧ yX5_wagonAt.cls ≠ "java/lang/invoke/VarHandle" ∧ (parseMethodDescriptor yX5_wagonAt.desc).map (fun d => d.parameters.length) = some 3 := by decide +kernel
/-! ===== Arrays.fill(int[], int) ===== -/
def tyFill (f : Nat → Int32) (n : Nat) (v : Int32) : Nat → Int32 := fun j => if j < n then v else f j
theorem tyFill_0 (f : Nat → Int32) (v : Int32) : tyFill f 0 v = f := funext fun j => if_neg (Nat.not_lt_zero j)
theorem tyFill_s (f : Nat → Int32) (i : Nat) (v : Int32) : upd (tyFill f i v) i v = tyFill f (i + 1) v := by
  funext j
  unfold upd tyFill
  by_cases h : j = i
  · rw [if_pos h, if_pos (by omega)]
  · rw [if_neg h]
    by_cases h2 : j < i
    · rw [if_pos h2, if_pos (by omega)]
    · rw [if_neg h2, if_neg (by omega)]
abbrev fillW (h0 : Nat) (cA : ClassId) (n : Nat) (f : Nat → Int32) : va_W := [(h0, .inl (cA, n, .inl f))]
set_option maxHeartbeats 4000000 in
set_option maxRecDepth 100000 in
theorem tyc_fill (l : Launch) (D : va_G) (h0 : Nat) (cA : ClassId) (n : Nat) (f : Nat → Int32) (v : Int32) (sz : Nat) (hn : n < 2 ^ 31) : Met l yJ7_fill_53178 wsJ7_fill_53178 ({ frames := 0, cells := 0, slots := 0, locals := 0 } : Room) (va_Pc [.ref h0, .int v] (fun U => U.heap.size = sz ∧ va_P D vwCl (fillW h0 cA n f) U.heap ∧ va_K D vwCl [(cA, .int)] U ∧ va_D (fun _ => True) (fillW h0 cA n f))) (va_Qv (fun (u : Nat → Int32) => u = tyFill f n v) (fun u t => va_P D vwCl (fillW h0 cA n u) t.heap ∧ va_K D vwCl [(cA, .int)] t ∧ va_D (va_A (fillW h0 cA n f) sz) (fillW h0 cA n u)) (va_A (fillW h0 cA n f) sz)) 0 0 (va_A (fillW h0 cA n f) sz) := by
  refine Met.ofW (cc := cJ7_fill_53178) (maxL := 4) (ret := none) (by decide) rfl ?_
  intro p e s m args below meth c s₁ B hml hv
  obtain ⟨rfl, hsz, hP, hK, hD0⟩ := hv
  have hx := B.exec
  have hb := B.bytes
  have hr := B.returns
  have hlocks := B.notSynchronized
  subst hsz
  have hD := hD0.self (sz := s.heap.size)
  generalize hAe : va_A (fillW h0 cA n f) s.heap.size = A at hD ⊢
  clear hAe hD0
  have hS : va_S A s.heap s.heap [] := va_S.rf
  have hl := lv_entry ([.ref h0, .int v]) (n := 4) (Nat.le_of_ble_eq_true rfl)
  rw [lg_entry_eq]
  generalize (lg_sl ([.ref h0, .int v]) ++ List.replicate (4 - (lg_sl ([.ref h0, .int v])).length) Slot.unset).toArray = ls at hl ⊢
  have hl : lv_has ls 4 [(0, .ref h0), (1, .int v)] := hl
  refine lv_iconst (v := 0) hx hb dJ7_fill_53178_0 (by decide) ?_
  refine lv_istore_n (lv' := [(2, .int 0), (0, .ref h0), (1, .int v)]) hx hb dJ7_fill_53178_1 rfl hl (by decide) rfl (fun ls hl => ?_)
  refine lv_aload_n hx hb dJ7_fill_53178_2 rfl (lv_at hl 1 rfl) ?_
  refine va_alen (v := nI n) hx hb hK hP 0 0 rfl rfl rfl dJ7_fill_53178_3 ?_
  refine lv_istore_n (lv' := [(3, .int (nI n)), (2, .int 0), (0, .ref h0), (1, .int v)]) hx hb dJ7_fill_53178_4 rfl hl (by decide) rfl (fun ls hl => ?_)
  have lp : ∀ (k i : Nat), i + k = n → ∀ (H : Heap) (locs : List Loc) (ls : Array Slot), va_P D vwCl (fillW h0 cA n (tyFill f i v)) H → va_D A (fillW h0 cA n (tyFill f i v)) → va_S A s.heap H locs → lv_has ls 4 [(0, .ref h0), (1, .int v), (2, .int (nI i)), (3, .int (nI n))] → W p l e (headSpec wsJ7_fill_53178 ({ frames := 0, cells := 0, slots := 0, locals := 0 } : Room)).room s m #[.ref h0, .int v] below meth c H locs 0 0 (MQ below (va_Qv (fun (u : Nat → Int32) => u = tyFill f n v) (fun u t => va_P D vwCl (fillW h0 cA n u) t.heap ∧ va_K D vwCl [(cA, .int)] t ∧ va_D A (fillW h0 cA n u)) A) #[.ref h0, .int v] s 0 0 A) (F0 m 5 ls []) := by
    intro k
    induction k with
    | zero =>
      intro i hi H locs ls hP hD hS hl
      obtain rfl : i = n := by omega
      refine lv_iload_n hx hb dJ7_fill_53178_5 rfl (lv_at hl 2 rfl) ?_
      refine lv_iload_n hx hb dJ7_fill_53178_6 rfl (lv_at hl 3 rfl) ?_
      refine lv_icmp_ge (tgt := 20) hx hb dJ7_fill_53178_7 (by decide) (fun _ => ?_) (fun c9 => absurd (nI_le (Nat.le_refl i) hn) c9)
      exact W.vret hx hb hr (fun t ht hW => ⟨⟨_, rfl, rfl, by rw [ht]; exact hP, va_K.moved hW.alike hK, hD⟩, hS.F ht⟩) hS.2.2 dJ7_fill_53178_20 hlocks
    | succ k ih =>
      intro i hi H locs ls hP hD hS hl
      have hlt : i < n := by omega
      refine lv_iload_n hx hb dJ7_fill_53178_5 rfl (lv_at hl 2 rfl) ?_
      refine lv_iload_n hx hb dJ7_fill_53178_6 rfl (lv_at hl 3 rfl) ?_
      refine lv_icmp_ge (tgt := 20) hx hb dJ7_fill_53178_7 (by decide) (fun c9 => absurd c9 (nI_ge hlt hn)) (fun _ => ?_)
      refine lv_aload_n hx hb dJ7_fill_53178_10 rfl (lv_at hl 0 rfl) ?_
      refine lv_iload_n hx hb dJ7_fill_53178_11 rfl (lv_at hl 2 rfl) ?_
      refine lv_iload_n hx hb dJ7_fill_53178_12 rfl (lv_at hl 1 rfl) ?_
      refine va_iast hx hb hK hP hD hS 0 0 rfl rfl (vp_in_nI hlt hn) dJ7_fill_53178_13 (fun H locs hP hD hS => ?_)
      rw [nI_clamp (show i < 2 ^ 31 by omega), tyFill_s] at hP hD
      refine lv_iinc (v := nI (i + 1)) (lv' := [(2, .int (nI (i + 1))), (0, .ref h0), (1, .int v), (3, .int (nI n))]) hx hb dJ7_fill_53178_14 hl (k := 2) rfl (nI_1 i) (by decide) rfl (fun ls hl => ?_)
      refine lv_goto (tgt := 5) hx hb dJ7_fill_53178_17 (by decide) ?_
      exact ih (i + 1) (by omega) _ _ _ hP hD hS (lv_sub hl [1, 2, 0, 3] rfl)
  exact lp n 0 (by omega) _ _ _ (by rw [tyFill_0]; exact hP) (by rw [tyFill_0]; exact hD) hS (lv_sub hl [2, 3, 1, 0] rfl)
theorem hd_fill : yJ7_fill_53178.cls ≠ "java/lang/invoke/MethodHandle" ∧ yJ7_fill_53178.cls ≠ "java/lang/invoke/VarHandle" ∧ (parseMethodDescriptor yJ7_fill_53178.desc).map (fun d => d.parameters.length) = some 2 := by decide +kernel
section GF
variable {p : Program} {l : Launch} {e : Env} {R : Room} {s : State} {m : MethodId} {args : Array Value} {below : List Frame} {meth : Method} {c : Code} {H : Heap} {locs : List Loc} {Q : State → Prop}
variable {cc : ByteArray} {nL index : Nat} {Ts : List Cond} {own : String} {rest st0 : List Value} {pc : Nat} {ls : Array Slot} {D : va_G} {w : tyS → va_W} {tys : List (ClassId × FieldType)} {A : Nat → Prop} {σ τ : tyS}
theorem gw_fill {a q0 t0 n : Nat} {cA : ClassId} {x : Int32} (S : CallFix p m c cc nL s args Ts own) (cw : CallB R s args own index yJ7_fill_53178 cJ7_fill_53178 4 none wsJ7_fill_53178 ({ frames := 0, cells := 0, slots := 0, locals := 0 } : Room) 0 0 2 ∧ (Cond.static yJ7_fill_53178).before args s = true)
    (hK : va_K D vwCl tys s) (hP : va_P D vwCl (w σ) H) (hD : va_D A (w σ)) (hS : va_S A s.heap H locs) (hA : ∀ q, s.heap.size ≤ q → A q) (ha : (w σ)[q0]? = some (a, .inl (cA, n, .inl (σ.1 q0)))) (ht : tys[t0]? = some (cA, .int)) (hset : ∀ f, (w σ).set q0 (a, .inl (cA, n, .inl f)) = w (sA σ q0 f)) (hn : n < 2 ^ 31)
    (hsize : ls.size = nL) (hst : st0 = .int x :: .ref a :: rest) (hW : (rest.map fun v => v.category).sum ≤ 8) (hdg : decode cc pc = .ok (.invokestatic index, 3)) (hτ : τ = sA σ q0 (tyFill (σ.1 q0) n x))
    (kk : ∀ (H1 : Heap) (locs1 : List Loc), va_P D vwCl (w τ) H1 → va_D A (w τ) → va_S A s.heap H1 locs1 → W p l e R s m args below meth c H1 locs1 0 0 Q (F0 m (pc + 3) ls rest)) : W p l e R s m args below meth c H locs 0 0 Q (F0 m pc ls st0) := by
  subst hst
  have hPc : va_P D vwCl (fillW a cA n (σ.1 q0)) H := hP.sub [q0] (by simp [ha])
  have hDc : va_D A (fillW a cA n (σ.1 q0)) := hD.sub [q0] rfl (by simp [ha])
  have hKc : va_K D vwCl [(cA, FieldType.int)] s := hK.sub [t0] (by simp [ht])
  have hF := gFree hDc hS hA
  refine va_callv (va_runS (As := [.ref a, .int x]) (rest := rest) S (tyc_fill l D a cA n (σ.1 q0) x H.size hn) cw ⟨fun a U g mk h => ⟨h.1, h.2.1, h.2.2.1, va_K.moved (u := U) (U := U.calling g mk a) (Vm.Alike.refl U.vm) h.2.2.2.1, h.2.2.2.2⟩, fun U hU hWm => ⟨rfl, by rw [hU], by rw [hU]; exact hPc, va_K.moved hWm.alike hKc, hDc.weaken (fun _ _ _ _ => trivial)⟩⟩ rfl rfl hsize rfl (lv_room hW) hdg ⟨Nat.zero_le _, Nat.zero_le _⟩) hS (fun q _ h => hF q h) hF (fun u t H1 locs1 ht2 hvm hw hB hz1 hk1 hS1 => ?_)
  subst hw
  obtain ⟨hP1, hK1, hD1⟩ := hB
  rw [ht2] at hP1
  have hset2 := hset (tyFill (σ.1 q0) n x)
  rw [← hτ] at hset2
  have hl := (List.getElem?_eq_some_iff.mp ha).1
  refine kk H1 locs1 ?_ ?_ hS1
  · rw [← hset2]
    intro k q hk
    by_cases hkq : k = q0
    · subst hkq
      rw [List.getElem?_set_self hl] at hk
      cases hk
      exact hP1 0 _ rfl
    · rw [List.getElem?_set_ne (Ne.symm hkq)] at hk
      have hlt := (hP k q hk).lt
      refine (hP k q hk).kept (hk1 q.1 hlt ?_)
      rintro (⟨j, e9, hj⟩ | hj)
      · have hj0 : j < 1 := (List.getElem?_eq_some_iff.mp hj).1
        obtain rfl : j = 0 := by omega
        have hq : q.1 = a := by cases hj; rfl
        exact hkq (hD.1 k q0 q _ hk ha hq)
      · omega
  · rw [← hset2]
    exact hD.set ha
end GF
end
section
/-! ===== the methods as values: TrunkYards ===== -/
def tyf_T_isYard (σ : tyS) (p0 : Int32) : Option Int32 :=
  if p0 < 0 then (
  some (0)) else (
  if 3 ≤ p0 then (
  some (0)) else (
  some (1)))
def tyf_T_isTrack (σ : tyS) (p0 : Int32) : Option Int32 :=
  if p0 < 0 then (
  some (0)) else (
  if 5 ≤ p0 then (
  some (0)) else (
  some (1)))
def tyf_T_requireTrack (σ : tyS) (p0 : Int32) (p1 : Int32) : Option tyX :=
  bR (tyf_T_isYard σ p0) fun r1 =>
  if r1 = 0 then (
  some ((1, 0, σ) : tyX)) else (
  bR (tyf_T_isTrack σ p1) fun r3 =>
  if r3 = 0 then (
  some ((1, 0, σ) : tyX)) else (
  some ((0, 0, σ) : tyX)))
def tyf_T_rowOf (σ : tyS) (p0 : Int32) (p1 : Int32) : Option Int32 :=
  some (((p0 * 5) + p1))
def tyf_R1_hasRoom (σ : tyS) (p1 : Int32) (p2 : Int32) : Option Int32 :=
  chk (inb p1 55) (
  if 6 < ((σ.1 6 (p1).toNatClampNeg) + p2) then (
  some (0)) else (
  some (1)))
def tyf_R1_put (σ : tyS) (p1 : Int32) (p2 : Int32) : Option tyS :=
  chk (inb p1 55) (
  chk (inb ((p1 * 6) + (σ.1 6 (p1).toNatClampNeg)) 330) (stp (sW σ 7 ((p1 * 6) + (σ.1 6 (p1).toNatClampNeg)) p2) fun σ3 =>
  chk (inb p1 55) (
  chk (inb p1 55) (stp (sW σ3 6 p1 ((σ3.1 6 (p1).toNatClampNeg) + 1)) fun σ6 =>
  some σ6))))
def tyf_H_noteMove (σ : tyS) (p1 : Int32) (p2 : Int32) (p3 : Int32) : Option tyS :=
  if 512 ≤ (σ.2 4) then (
  some σ) else (
  chk (inb (σ.2 4) 512) (stp (sW σ 10 (σ.2 4) p1) fun σ3 =>
  chk (inb (σ3.2 4) 512) (stp (sW σ3 11 (σ3.2 4) p2) fun σ5 =>
  chk (inb (σ5.2 4) 512) (stp (sW σ5 12 (σ5.2 4) p3) fun σ7 =>
  stp (sV σ7 4 ((σ7.2 4) + 1)) fun σ8 =>
  some σ8))))
def tyf_H_notePlacing (σ : tyS) (p1 : Int32) (p2 : Int32) : Option tyS :=
  bR (tyf_H_noteMove σ (-1) p1 p2) fun σ1 =>
  some σ1
def tyf_T_wagon (σ : tyS) (p1 : Int32) (p2 : Int32) : Option tyX :=
  bX (tyf_T_requireTrack σ p1 p2) fun r2 σ1 =>
  bR (tyf_T_rowOf σ1 p1 p2) fun r3 =>
  if 30 ≤ (σ1.2 0) then (
  some ((2, 0, σ1) : tyX)) else (
  bR (tyf_R1_hasRoom σ1 r3 1) fun r5 =>
  if r5 = 0 then (
  some ((2, 0, σ1) : tyX)) else (
  stp (sV σ1 0 ((σ1.2 0) + 1)) fun σ7 =>
  bR (tyf_R1_put σ7 r3 (σ1.2 0)) fun σ8 =>
  bR (tyf_H_notePlacing σ8 r3 (σ1.2 0)) fun σ9 =>
  some ((0, (σ1.2 0), σ9) : tyX)))
def tyf_R1_count (σ : tyS) (p1 : Int32) : Option Int32 :=
  chk (inb p1 55) (
  some ((σ.1 6 (p1).toNatClampNeg)))
def tyb_R1_move_31 (k rec : tyS → Int32 → Int32 → Int32 → Int32 → Int32 → Int32 → Option tyS) (σ0 : tyS) (x1 : Int32) (x2 : Int32) (x3 : Int32) (x4 : Int32) (x5 : Int32) (x6 : Int32) : Option tyS :=
  if x3 ≤ x6 then (
  k σ0 x1 x2 x3 x4 x5 x6) else (
  chk (inb (x4 + x6) 330) (
  chk (inb (x5 + x6) 330) (stp (sW σ0 7 (x5 + x6) (σ0.1 7 ((x4 + x6)).toNatClampNeg)) fun σ6 =>
  rec σ6 x1 x2 x3 x4 x5 (x6 + 1))))
def tyl_R1_move_31 (k : tyS → Int32 → Int32 → Int32 → Int32 → Int32 → Int32 → Option tyS) : Nat → tyS → Int32 → Int32 → Int32 → Int32 → Int32 → Int32 → Option tyS
  | 0, _, _, _, _, _, _, _ => none
  | n + 1, σ0, x1, x2, x3, x4, x5, x6 => tyb_R1_move_31 k (tyl_R1_move_31 k n) σ0 x1 x2 x3 x4 x5 x6
def tyf_R1_move (σ : tyS) (p1 : Int32) (p2 : Int32) (p3 : Int32) : Option tyS :=
  chk (inb p1 55) (
  chk (inb p2 55) (
  tyl_R1_move_31 (fun σ0 x1 x2 x3 x4 x5 x6 =>
  chk (inb x1 55) (
  chk (inb x1 55) (stp (sW σ0 6 x1 ((σ0.1 6 (x1).toNatClampNeg) - x3)) fun σ9 =>
  chk (inb x2 55) (
  chk (inb x2 55) (stp (sW σ9 6 x2 ((σ9.1 6 (x2).toNatClampNeg) + x3)) fun σ12 =>
  some σ12))))) 64 σ p1 p2 p3 (((p1 * 6) + (σ.1 6 (p1).toNatClampNeg)) - p3) ((p2 * 6) + (σ.1 6 (p2).toNatClampNeg)) 0))
def tyf_T_moveLast (σ : tyS) (p1 : Int32) (p2 : Int32) (p3 : Int32) : Option tyS :=
  bR (tyf_R1_move σ p1 p2 p3) fun σ1 =>
  bR (tyf_H_noteMove σ1 p1 p2 p3) fun σ2 =>
  some σ2
def tyf_T_shunt (σ : tyS) (p1 : Int32) (p2 : Int32) (p3 : Int32) (p4 : Int32) : Option tyX :=
  bX (tyf_T_requireTrack σ p1 p2) fun r2 σ1 =>
  bX (tyf_T_requireTrack σ1 p1 p3) fun r4 σ3 =>
  if p2 = p3 then (
  some ((1, 0, σ3) : tyX)) else (
  if p4 < 1 then (
  some ((1, 0, σ3) : tyX)) else (
  if p4 ≤ 6 then (
  bR (tyf_T_rowOf σ3 p1 p2) fun r8 =>
  bR (tyf_T_rowOf σ3 p1 p3) fun r9 =>
  bR (tyf_R1_count σ3 r8) fun r10 =>
  if r10 < p4 then (
  some ((2, 0, σ3) : tyX)) else (
  bR (tyf_R1_hasRoom σ3 r9 p4) fun r12 =>
  if r12 = 0 then (
  some ((2, 0, σ3) : tyX)) else (
  bR (tyf_T_moveLast σ3 r8 r9 p4) fun σ14 =>
  bR (tyf_R1_count σ14 r9) fun r15 =>
  some ((0, r15, σ14) : tyX)))) else (
  some ((1, 0, σ3) : tyX))))
def tyf_T_requireYard (σ : tyS) (p0 : Int32) : Option tyX :=
  bR (tyf_T_isYard σ p0) fun r1 =>
  if r1 = 0 then (
  some ((1, 0, σ) : tyX)) else (
  some ((0, 0, σ) : tyX))
def tyf_R1_get (σ : tyS) (p1 : Int32) (p2 : Int32) : Option Int32 :=
  chk (inb ((p1 * 6) + p2) 330) (
  some ((σ.1 7 (((p1 * 6) + p2)).toNatClampNeg)))
def tyf_T_wash (σ : tyS) (p1 : Int32) : Option tyX :=
  bX (tyf_T_requireYard σ p1) fun r2 σ1 =>
  bR (tyf_T_rowOf σ1 p1 0) fun r3 =>
  bR (tyf_R1_count σ1 r3) fun r4 =>
  if r4 = 0 then (
  some ((2, 0, σ1) : tyX)) else (
  bR (tyf_R1_get σ1 r3 (r4 - 1)) fun r6 =>
  chk (inb r6 30) (
  chk (inb r6 30) (stp (sW σ1 29 r6 (-1)) fun σ9 =>
  some ((0, (σ1.1 29 (r6).toNatClampNeg), σ9) : tyX))))
def tyf_T_isGrain (σ : tyS) (p0 : Int32) : Option Int32 :=
  if p0 < 0 then (
  some (0)) else (
  if 4 ≤ p0 then (
  some (0)) else (
  some (1)))
def tyf_T_follow (σ : tyS) (p1 : Int32) (p2 : Int32) : Option tyX :=
  bR (tyf_T_isGrain σ p1) fun r1 =>
  if r1 = 0 then (
  some ((1, 0, σ) : tyX)) else (
  bR (tyf_T_isGrain σ p2) fun r3 =>
  if r3 = 0 then (
  some ((1, 0, σ) : tyX)) else (
  if p1 = p2 then (
  some ((1, 0, σ) : tyX)) else (
  chk (inb ((p1 * 4) + p2) 16) (
  if (σ.1 30 (((p1 * 4) + p2)).toNatClampNeg) = 0 then (
  chk (inb ((p1 * 4) + p2) 16) (stp (sW σ 30 ((p1 * 4) + p2) 1) fun σ13 =>
  chk (inb ((p1 * 4) + p2) 16) (
  chk (decide (vp_nar .boolean (σ13.1 30 (((p1 * 4) + p2)).toNatClampNeg) = (σ13.1 30 (((p1 * 4) + p2)).toNatClampNeg))) (
  some ((0, (σ13.1 30 (((p1 * 4) + p2)).toNatClampNeg), σ13) : tyX))))) else (
  chk (inb ((p1 * 4) + p2) 16) (stp (sW σ 30 ((p1 * 4) + p2) 0) fun σ9 =>
  chk (inb ((p1 * 4) + p2) 16) (
  chk (decide (vp_nar .boolean (σ9.1 30 (((p1 * 4) + p2)).toNatClampNeg) = (σ9.1 30 (((p1 * 4) + p2)).toNatClampNeg))) (
  some ((0, (σ9.1 30 (((p1 * 4) + p2)).toNatClampNeg), σ9) : tyX)))))))))
def tyf_T_on (σ : tyS) (p1 : Int32) (p2 : Int32) : Option tyX :=
  bX (tyf_T_requireTrack σ p1 p2) fun r2 σ1 =>
  bR (tyf_T_rowOf σ1 p1 p2) fun r3 =>
  bR (tyf_R1_count σ1 r3) fun r4 =>
  some ((0, r4, σ1) : tyX)
def tyf_T_wagonIn1 (σ : tyS) (p1 : Int32) (p2 : Int32) : Option tyX :=
  if p2 < 0 then (
  some ((3, 0, σ) : tyX)) else (
  bR (tyf_R1_count σ p1) fun r2 =>
  if p2 < r2 then (
  bR (tyf_R1_get σ p1 p2) fun r4 =>
  some ((0, r4, σ) : tyX)) else (
  some ((3, 0, σ) : tyX)))
def tyf_T_at (σ : tyS) (p1 : Int32) (p2 : Int32) (p3 : Int32) : Option tyX :=
  bX (tyf_T_requireTrack σ p1 p2) fun r2 σ1 =>
  bR (tyf_T_rowOf σ1 p1 p2) fun r3 =>
  bX (tyf_T_wagonIn1 σ1 r3 p3) fun r5 σ4 =>
  some ((0, r5, σ4) : tyX)
def tyf_R2_clear (σ : tyS) : Option tyS :=
  stp (sA σ 8 (tyFill (σ.1 8) 55 0)) fun σ1 =>
  some σ1
def tyb_R2_move_31 (k rec : tyS → Int32 → Int32 → Int32 → Int32 → Int32 → Int32 → Option tyS) (σ0 : tyS) (x1 : Int32) (x2 : Int32) (x3 : Int32) (x4 : Int32) (x5 : Int32) (x6 : Int32) : Option tyS :=
  if x3 ≤ x6 then (
  k σ0 x1 x2 x3 x4 x5 x6) else (
  chk (inb (x4 + x6) 330) (
  chk (inb (x5 + x6) 330) (stp (sW σ0 9 (x5 + x6) (σ0.1 9 ((x4 + x6)).toNatClampNeg)) fun σ6 =>
  rec σ6 x1 x2 x3 x4 x5 (x6 + 1))))
def tyl_R2_move_31 (k : tyS → Int32 → Int32 → Int32 → Int32 → Int32 → Int32 → Option tyS) : Nat → tyS → Int32 → Int32 → Int32 → Int32 → Int32 → Int32 → Option tyS
  | 0, _, _, _, _, _, _, _ => none
  | n + 1, σ0, x1, x2, x3, x4, x5, x6 => tyb_R2_move_31 k (tyl_R2_move_31 k n) σ0 x1 x2 x3 x4 x5 x6
def tyf_R2_move (σ : tyS) (p1 : Int32) (p2 : Int32) (p3 : Int32) : Option tyS :=
  chk (inb p1 55) (
  chk (inb p2 55) (
  tyl_R2_move_31 (fun σ0 x1 x2 x3 x4 x5 x6 =>
  chk (inb x1 55) (
  chk (inb x1 55) (stp (sW σ0 8 x1 ((σ0.1 8 (x1).toNatClampNeg) - x3)) fun σ9 =>
  chk (inb x2 55) (
  chk (inb x2 55) (stp (sW σ9 8 x2 ((σ9.1 8 (x2).toNatClampNeg) + x3)) fun σ12 =>
  some σ12))))) 64 σ p1 p2 p3 (((p1 * 6) + (σ.1 8 (p1).toNatClampNeg)) - p3) ((p2 * 6) + (σ.1 8 (p2).toNatClampNeg)) 0))
def tyf_R2_put (σ : tyS) (p1 : Int32) (p2 : Int32) : Option tyS :=
  chk (inb p1 55) (
  chk (inb ((p1 * 6) + (σ.1 8 (p1).toNatClampNeg)) 330) (stp (sW σ 9 ((p1 * 6) + (σ.1 8 (p1).toNatClampNeg)) p2) fun σ3 =>
  chk (inb p1 55) (
  chk (inb p1 55) (stp (sW σ3 8 p1 ((σ3.1 8 (p1).toNatClampNeg) + 1)) fun σ6 =>
  some σ6))))
def tyb_H_replay_6 (k rec : tyS → Int32 → Option tyS) (σ0 : tyS) (x2 : Int32) : Option tyS :=
  if (σ0.2 4) ≤ x2 then (
  k σ0 x2) else (
  chk (inb x2 512) (
  if (σ0.1 10 (x2).toNatClampNeg) = (-1) then (
  chk (inb x2 512) (
  chk (inb x2 512) (
  bR (tyf_R2_put σ0 (σ0.1 11 (x2).toNatClampNeg) (σ0.1 12 (x2).toNatClampNeg)) fun σ11 =>
  rec σ11 (x2 + 1)))) else (
  chk (inb x2 512) (
  chk (inb x2 512) (
  chk (inb x2 512) (
  bR (tyf_R2_move σ0 (σ0.1 10 (x2).toNatClampNeg) (σ0.1 11 (x2).toNatClampNeg) (σ0.1 12 (x2).toNatClampNeg)) fun σ8 =>
  rec σ8 (x2 + 1)))))))
def tyl_H_replay_6 (k : tyS → Int32 → Option tyS) : Nat → tyS → Int32 → Option tyS
  | 0, _, _ => none
  | n + 1, σ0, x2 => tyb_H_replay_6 k (tyl_H_replay_6 k n) σ0 x2
def tyf_H_replay (σ : tyS) : Option tyS :=
  bR (tyf_R2_clear σ ) fun σ1 =>
  tyl_H_replay_6 (fun σ0 x2 =>
  some σ0) 520 σ1 0
def tyf_R2_count (σ : tyS) (p1 : Int32) : Option Int32 :=
  chk (inb p1 55) (
  some ((σ.1 8 (p1).toNatClampNeg)))
def tyf_R2_get (σ : tyS) (p1 : Int32) (p2 : Int32) : Option Int32 :=
  chk (inb ((p1 * 6) + p2) 330) (
  some ((σ.1 9 (((p1 * 6) + p2)).toNatClampNeg)))
def tyf_T_wagonIn2 (σ : tyS) (p1 : Int32) (p2 : Int32) : Option tyX :=
  if p2 < 0 then (
  some ((3, 0, σ) : tyX)) else (
  bR (tyf_R2_count σ p1) fun r2 =>
  if p2 < r2 then (
  bR (tyf_R2_get σ p1 p2) fun r4 =>
  some ((0, r4, σ) : tyX)) else (
  some ((3, 0, σ) : tyX)))
def tyf_T_atByReplay (σ : tyS) (p1 : Int32) (p2 : Int32) (p3 : Int32) : Option tyX :=
  bX (tyf_T_requireTrack σ p1 p2) fun r2 σ1 =>
  bR (tyf_H_replay σ1 ) fun σ3 =>
  bR (tyf_T_rowOf σ3 p1 p2) fun r4 =>
  bX (tyf_T_wagonIn2 σ3 r4 p3) fun r6 σ5 =>
  some ((0, r6, σ5) : tyX)
def tyf_T_requireWagon (σ : tyS) (p1 : Int32) : Option tyX :=
  if p1 < 0 then (
  some ((3, 0, σ) : tyX)) else (
  if p1 < (σ.2 0) then (
  some ((0, 0, σ) : tyX)) else (
  some ((3, 0, σ) : tyX)))
def tyb_R1_findOnTracks_10 (σ : tyS) (k rec : Int32 → Int32 → Int32 → Option Int32) (x1 : Int32) (x2 : Int32) (x3 : Int32) : Option Int32 :=
  chk (inb x2 55) (
  if (σ.1 6 (x2).toNatClampNeg) ≤ x3 then (
  k  x1 x2 x3) else (
  bR (tyf_R1_get σ x2 x3) fun r4 =>
  if r4 = x1 then (
  some (x2)) else (
  rec  x1 x2 (x3 + 1))))
def tyl_R1_findOnTracks_10 (σ : tyS) (k : Int32 → Int32 → Int32 → Option Int32) : Nat → Int32 → Int32 → Int32 → Option Int32
  | 0, _, _, _ => none
  | n + 1, x1, x2, x3 => tyb_R1_findOnTracks_10 σ k (tyl_R1_findOnTracks_10 σ k n) x1 x2 x3
def tyb_R1_findOnTracks_2 (σ : tyS) (k rec : Int32 → Int32 → Option Int32) (x1 : Int32) (x2 : Int32) : Option Int32 :=
  if 15 ≤ x2 then (
  k  x1 x2) else (
  tyl_R1_findOnTracks_10 σ (fun x1 x2 x3 =>
  rec  x1 (x2 + 1)) 64  x1 x2 0)
def tyl_R1_findOnTracks_2 (σ : tyS) (k : Int32 → Int32 → Option Int32) : Nat → Int32 → Int32 → Option Int32
  | 0, _, _ => none
  | n + 1, x1, x2 => tyb_R1_findOnTracks_2 σ k (tyl_R1_findOnTracks_2 σ k n) x1 x2
def tyf_R1_findOnTracks (σ : tyS) (p1 : Int32) : Option Int32 :=
  tyl_R1_findOnTracks_2 σ (fun x1 x2 =>
  some ((-1))) 64  p1 0
def tyf_T_where (σ : tyS) (p1 : Int32) : Option tyX :=
  bX (tyf_T_requireWagon σ p1) fun r2 σ1 =>
  bR (tyf_R1_findOnTracks σ1 p1) fun r3 =>
  if r3 = (-1) then (
  some ((0, (-1), σ1) : tyX)) else (
  some ((0, (((r3 / 5) * 10) + (r3 - r3 / 5 * 5)), σ1) : tyX))
def tyf_T_carried (σ : tyS) (p1 : Int32) : Option tyX :=
  bX (tyf_T_requireWagon σ p1) fun r2 σ1 =>
  chk (inb p1 30) (
  some ((0, (σ1.1 29 (p1).toNatClampNeg), σ1) : tyX))
def tyf_L_bookingFor (σ : tyS) (p1 : Int32) : Option Int32 :=
  chk (inb p1 30) (
  some ((σ.1 20 (p1).toNatClampNeg)))
def tyf_T_promised (σ : tyS) (p1 : Int32) : Option tyX :=
  bX (tyf_T_requireWagon σ p1) fun r2 σ1 =>
  bR (tyf_L_bookingFor σ1 p1) fun r3 =>
  some ((0, r3, σ1) : tyX)
def tyf_T_requireCustomer (σ : tyS) (p0 : Int32) : Option tyX :=
  if p0 < 0 then (
  some ((1, 0, σ) : tyX)) else (
  if p0 < 6 then (
  some ((0, 0, σ) : tyX)) else (
  some ((1, 0, σ) : tyX)))
def tyf_B_ongoing (σ : tyS) (p1 : Int32) : Option Int32 :=
  chk (inb p1 6) (
  some ((σ.1 26 (p1).toNatClampNeg)))
def tyf_B_isFull (σ : tyS) : Option Int32 :=
  if (σ.2 6) < 60 then (
  some (0)) else (
  some (1))
def tyb_B_callsTo_4 (σ : tyS) (k rec : Int32 → Int32 → Int32 → Option Int32) (x1 : Int32) (x2 : Int32) (x3 : Int32) : Option Int32 :=
  if 6 ≤ x3 then (
  k  x1 x2 x3) else (
  chk (inb x3 6) (
  if (σ.1 26 (x3).toNatClampNeg) = (-1) then (
  rec  x1 x2 (x3 + 1)) else (
  chk (inb (σ.1 26 (x3).toNatClampNeg) 60) (
  if (σ.1 22 ((σ.1 26 (x3).toNatClampNeg)).toNatClampNeg) = x1 then (
  rec  x1 (x2 + 1) (x3 + 1)) else (
  rec  x1 x2 (x3 + 1))))))
def tyl_B_callsTo_4 (σ : tyS) (k : Int32 → Int32 → Int32 → Option Int32) : Nat → Int32 → Int32 → Int32 → Option Int32
  | 0, _, _, _ => none
  | n + 1, x1, x2, x3 => tyb_B_callsTo_4 σ k (tyl_B_callsTo_4 σ k n) x1 x2 x3
def tyf_B_callsTo (σ : tyS) (p1 : Int32) : Option Int32 :=
  tyl_B_callsTo_4 σ (fun x1 x2 x3 =>
  some (x2)) 64  p1 0 0
def tyf_T_slotOf (σ : tyS) (p0 : Int32) (p1 : Int32) (p2 : Int32) : Option Int32 :=
  some (((((p0 + p1) - 1) * 2) + p2))
def tyb_B_freeTrunk_2 (σ : tyS) (k rec : Int32 → Int32 → Int32 → Option Int32) (x1 : Int32) (x2 : Int32) (x3 : Int32) : Option Int32 :=
  if 2 ≤ x3 then (
  k  x1 x2 x3) else (
  bR (tyf_T_slotOf σ x1 x2 x3) fun r2 =>
  chk (inb r2 6) (
  if (σ.1 27 (r2).toNatClampNeg) = (-1) then (
  some (r2)) else (
  rec  x1 x2 (x3 + 1))))
def tyl_B_freeTrunk_2 (σ : tyS) (k : Int32 → Int32 → Int32 → Option Int32) : Nat → Int32 → Int32 → Int32 → Option Int32
  | 0, _, _, _ => none
  | n + 1, x1, x2, x3 => tyb_B_freeTrunk_2 σ k (tyl_B_freeTrunk_2 σ k n) x1 x2 x3
def tyf_B_freeTrunk (σ : tyS) (p1 : Int32) (p2 : Int32) : Option Int32 :=
  tyl_B_freeTrunk_2 σ (fun x1 x2 x3 =>
  some ((-1))) 64  p1 p2 0
def tyf_B_occupy (σ : tyS) (p1 : Int32) (p2 : Int32) : Option tyS :=
  if p1 = (-1) then (
  some σ) else (
  chk (inb p1 6) (stp (sW σ 27 p1 p2) fun σ3 =>
  some σ3))
def tyf_B_connect (σ : tyS) (p1 : Int32) (p2 : Int32) (p3 : Int32) (p4 : Int32) : Option (Int32 × tyS) :=
  stp (sV σ 6 ((σ.2 6) + 1)) fun σ1 =>
  chk (inb (σ.2 6) 60) (stp (sW σ1 21 (σ.2 6) p1) fun σ3 =>
  chk (inb (σ.2 6) 60) (stp (sW σ3 22 (σ.2 6) p2) fun σ5 =>
  chk (inb (σ.2 6) 60) (stp (sW σ5 23 (σ.2 6) (-1)) fun σ7 =>
  chk (inb (σ.2 6) 60) (stp (sW σ7 24 (σ.2 6) p3) fun σ9 =>
  chk (inb (σ.2 6) 60) (stp (sW σ9 25 (σ.2 6) p4) fun σ11 =>
  chk (inb p1 6) (stp (sW σ11 26 p1 (σ.2 6)) fun σ13 =>
  bR (tyf_B_occupy σ13 p3 (σ.2 6)) fun σ14 =>
  bR (tyf_B_occupy σ14 p4 (σ.2 6)) fun σ15 =>
  some ((σ.2 6), σ15)))))))
def tyf_B_begin (σ : tyS) (p1 : Int32) (p2 : Int32) : Option (Int32 × tyS) :=
  bR (tyf_B_callsTo σ p2) fun r1 =>
  chk (inb p2 3) (
  if r1 < (σ.1 28 (p2).toNatClampNeg) then (
  if (p1 - p1 / 3 * 3) = p2 then (
  bN (tyf_B_connect σ p1 p2 (-1) (-1)) fun r16 σ15 =>
  some (r16, σ15)) else (
  bR (tyf_B_freeTrunk σ (p1 - p1 / 3 * 3) p2) fun r5 =>
  if r5 = (-1) then (
  bR (tyf_B_freeTrunk σ (p1 - p1 / 3 * 3) ((3 - (p1 - p1 / 3 * 3)) - p2)) fun r7 =>
  bR (tyf_B_freeTrunk σ ((3 - (p1 - p1 / 3 * 3)) - p2) p2) fun r8 =>
  if r7 = (-1) then (
  some ((-1), σ)) else (
  if r8 = (-1) then (
  some ((-1), σ)) else (
  bN (tyf_B_connect σ p1 p2 r7 r8) fun r12 σ11 =>
  some (r12, σ11)))) else (
  bN (tyf_B_connect σ p1 p2 r5 (-1)) fun r14 σ13 =>
  some (r14, σ13)))) else (
  some ((-1), σ)))
def tyf_T_call (σ : tyS) (p1 : Int32) (p2 : Int32) : Option tyX :=
  bX (tyf_T_requireCustomer σ p1) fun r2 σ1 =>
  bX (tyf_T_requireYard σ1 p2) fun r4 σ3 =>
  bR (tyf_B_ongoing σ3 p1) fun r5 =>
  if r5 = (-1) then (
  bR (tyf_B_isFull σ3 ) fun r7 =>
  if r7 = 0 then (
  bN (tyf_B_begin σ3 p1 p2) fun r10 σ9 =>
  if r10 = (-1) then (
  stp (sV σ9 2 ((σ9.2 2) + 1)) fun σ12 =>
  some ((0, r10, σ12) : tyX)) else (
  some ((0, r10, σ9) : tyX))) else (
  some ((2, 0, σ3) : tyX))) else (
  some ((2, 0, σ3) : tyX))
def tyf_B_hasBegun (σ : tyS) (p1 : Int32) : Option Int32 :=
  if p1 < 0 then (
  some (0)) else (
  if (σ.2 6) ≤ p1 then (
  some (0)) else (
  some (1)))
def tyf_T_requireCall (σ : tyS) (p1 : Int32) : Option tyX :=
  bR (tyf_B_hasBegun σ p1) fun r1 =>
  if r1 = 0 then (
  some ((3, 0, σ) : tyX)) else (
  some ((0, 0, σ) : tyX))
def tyf_B_goesOn (σ : tyS) (p1 : Int32) : Option Int32 :=
  chk (inb p1 60) (
  chk (inb (σ.1 21 (p1).toNatClampNeg) 6) (
  if (σ.1 26 ((σ.1 21 (p1).toNatClampNeg)).toNatClampNeg) = p1 then (
  some (1)) else (
  some (0))))
def tyf_T_requireOngoing (σ : tyS) (p1 : Int32) : Option tyX :=
  bR (tyf_B_goesOn σ p1) fun r1 =>
  if r1 = 0 then (
  some ((2, 0, σ) : tyX)) else (
  some ((0, 0, σ) : tyX))
def tyf_B_openBooking (σ : tyS) (p1 : Int32) : Option Int32 :=
  chk (inb p1 60) (
  some ((σ.1 23 (p1).toNatClampNeg)))
def tyf_L_grain (σ : tyS) (p1 : Int32) : Option Int32 :=
  chk (inb p1 40) (
  some ((σ.1 15 (p1).toNatClampNeg)))
def tyf_B_yard (σ : tyS) (p1 : Int32) : Option Int32 :=
  chk (inb p1 60) (
  some ((σ.1 22 (p1).toNatClampNeg)))
def tyf_T_fits (σ : tyS) (p1 : Int32) (p2 : Int32) : Option Int32 :=
  chk (inb p1 30) (
  if (σ.1 29 (p1).toNatClampNeg) = (-1) then (
  some (1)) else (
  if (σ.1 29 (p1).toNatClampNeg) = p2 then (
  some (1)) else (
  chk (inb (((σ.1 29 (p1).toNatClampNeg) * 4) + p2) 16) (
  if (σ.1 30 ((((σ.1 29 (p1).toNatClampNeg) * 4) + p2)).toNatClampNeg) = 0 then (
  some (0)) else (
  some (1))))))
def tyb_T_findWagon_11 (σ : tyS) (k rec : Int32 → Int32 → Int32 → Int32 → Option Int32) (x1 : Int32) (x2 : Int32) (x3 : Int32) (x4 : Int32) : Option Int32 :=
  if 5 ≤ x4 then (
  k  x1 x2 x3 x4) else (
  bR (tyf_T_rowOf σ x1 x4) fun r3 =>
  bR (tyf_R1_count σ r3) fun r4 =>
  if ((r4 - 1) - x3) < 0 then (
  rec  x1 x2 x3 (x4 + 1)) else (
  bR (tyf_R1_get σ r3 ((r4 - 1) - x3)) fun r6 =>
  bR (tyf_L_bookingFor σ r6) fun r7 =>
  if r7 = (-1) then (
  bR (tyf_T_fits σ r6 x2) fun r9 =>
  if r9 = 0 then (
  rec  x1 x2 x3 (x4 + 1)) else (
  some (r6))) else (
  rec  x1 x2 x3 (x4 + 1))))
def tyl_T_findWagon_11 (σ : tyS) (k : Int32 → Int32 → Int32 → Int32 → Option Int32) : Nat → Int32 → Int32 → Int32 → Int32 → Option Int32
  | 0, _, _, _, _ => none
  | n + 1, x1, x2, x3, x4 => tyb_T_findWagon_11 σ k (tyl_T_findWagon_11 σ k n) x1 x2 x3 x4
def tyb_T_findWagon_2 (σ : tyS) (k rec : Int32 → Int32 → Int32 → Option Int32) (x1 : Int32) (x2 : Int32) (x3 : Int32) : Option Int32 :=
  if 6 ≤ x3 then (
  k  x1 x2 x3) else (
  tyl_T_findWagon_11 σ (fun x1 x2 x3 x4 =>
  rec  x1 x2 (x3 + 1)) 64  x1 x2 x3 0)
def tyl_T_findWagon_2 (σ : tyS) (k : Int32 → Int32 → Int32 → Option Int32) : Nat → Int32 → Int32 → Int32 → Option Int32
  | 0, _, _, _ => none
  | n + 1, x1, x2, x3 => tyb_T_findWagon_2 σ k (tyl_T_findWagon_2 σ k n) x1 x2 x3
def tyf_T_findWagon (σ : tyS) (p1 : Int32) (p2 : Int32) : Option Int32 :=
  tyl_T_findWagon_2 σ (fun x1 x2 x3 =>
  some ((-1))) 64  p1 p2 0
def tyf_L_add (σ : tyS) (p1 : Int32) (p2 : Int32) : Option tyS :=
  chk (inb p1 40) (
  chk (inb ((p1 * 30) + (σ.1 18 (p1).toNatClampNeg)) 1200) (stp (sW σ 19 ((p1 * 30) + (σ.1 18 (p1).toNatClampNeg)) p2) fun σ3 =>
  chk (inb p1 40) (
  chk (inb p1 40) (stp (sW σ3 18 p1 ((σ3.1 18 (p1).toNatClampNeg) + 1)) fun σ6 =>
  chk (inb p2 30) (stp (sW σ6 20 p2 p1) fun σ8 =>
  some σ8)))))
def tyf_B_customer (σ : tyS) (p1 : Int32) : Option Int32 :=
  chk (inb p1 60) (
  some ((σ.1 21 (p1).toNatClampNeg)))
def tyf_L_open (σ : tyS) (p1 : Int32) (p2 : Int32) (p3 : Int32) : Option (Int32 × tyS) :=
  stp (sV σ 5 ((σ.2 5) + 1)) fun σ1 =>
  chk (inb (σ.2 5) 40) (stp (sW σ1 13 (σ.2 5) p1) fun σ3 =>
  chk (inb (σ.2 5) 40) (stp (sW σ3 14 (σ.2 5) p2) fun σ5 =>
  chk (inb (σ.2 5) 40) (stp (sW σ5 15 (σ.2 5) p3) fun σ7 =>
  chk (inb (σ.2 5) 40) (stp (sW σ7 16 (σ.2 5) 0) fun σ9 =>
  some ((σ.2 5), σ9)))))
def tyf_B_setOpenBooking (σ : tyS) (p1 : Int32) (p2 : Int32) : Option tyS :=
  chk (inb p1 60) (stp (sW σ 23 p1 p2) fun σ2 =>
  some σ2)
def tyf_L_isFull (σ : tyS) : Option Int32 :=
  if (σ.2 5) < 40 then (
  some (0)) else (
  some (1))
def tyf_T_ask (σ : tyS) (p1 : Int32) (p2 : Int32) : Option tyX :=
  bX (tyf_T_requireCall σ p1) fun r2 σ1 =>
  bR (tyf_T_isGrain σ1 p2) fun r3 =>
  if r3 = 0 then (
  some ((1, 0, σ1) : tyX)) else (
  bX (tyf_T_requireOngoing σ1 p1) fun r6 σ5 =>
  bR (tyf_B_openBooking σ5 p1) fun r7 =>
  if r7 = (-1) then (
  bR (tyf_L_isFull σ5 ) fun r22 =>
  if r22 = 0 then (
  bR (tyf_B_yard σ5 p1) fun r24 =>
  bR (tyf_T_findWagon σ5 r24 p2) fun r25 =>
  if r25 = (-1) then (
  some ((0, (-1), σ5) : tyX)) else (
  if r7 = (-1) then (
  bR (tyf_B_customer σ5 p1) fun r29 =>
  bR (tyf_B_yard σ5 p1) fun r30 =>
  bN (tyf_L_open σ5 r29 r30 p2) fun r32 σ31 =>
  bR (tyf_B_setOpenBooking σ31 p1 r32) fun σ33 =>
  bR (tyf_L_add σ33 r32 r25) fun σ34 =>
  some ((0, r25, σ34) : tyX)) else (
  bR (tyf_L_add σ5 r7 r25) fun σ28 =>
  some ((0, r25, σ28) : tyX)))) else (
  some ((2, 0, σ5) : tyX))) else (
  bR (tyf_L_grain σ5 r7) fun r9 =>
  if r9 = p2 then (
  bR (tyf_B_yard σ5 p1) fun r11 =>
  bR (tyf_T_findWagon σ5 r11 p2) fun r12 =>
  if r12 = (-1) then (
  some ((0, (-1), σ5) : tyX)) else (
  if r7 = (-1) then (
  bR (tyf_B_customer σ5 p1) fun r16 =>
  bR (tyf_B_yard σ5 p1) fun r17 =>
  bN (tyf_L_open σ5 r16 r17 p2) fun r19 σ18 =>
  bR (tyf_B_setOpenBooking σ18 p1 r19) fun σ20 =>
  bR (tyf_L_add σ20 r19 r12) fun σ21 =>
  some ((0, r12, σ21) : tyX)) else (
  bR (tyf_L_add σ5 r7 r12) fun σ15 =>
  some ((0, r12, σ15) : tyX)))) else (
  some ((2, 0, σ5) : tyX))))
def tyf_L_keep (σ : tyS) (p1 : Int32) (p2 : Int32) : Option tyS :=
  chk (inb p1 40) (stp (sW σ 16 p1 p2) fun σ2 =>
  some σ2)
def tyf_T_confirm (σ : tyS) (p1 : Int32) : Option tyX :=
  bX (tyf_T_requireCall σ p1) fun r2 σ1 =>
  bX (tyf_T_requireOngoing σ1 p1) fun r4 σ3 =>
  bR (tyf_B_openBooking σ3 p1) fun r5 =>
  if r5 = (-1) then (
  some ((2, 0, σ3) : tyX)) else (
  bR (tyf_L_keep σ3 r5 2) fun σ7 =>
  bR (tyf_B_setOpenBooking σ7 p1 (-1)) fun σ8 =>
  some ((0, r5, σ8) : tyX))
def tyf_L_opened (σ : tyS) : Option Int32 :=
  some ((σ.2 5))
def tyf_T_requireBooking (σ : tyS) (p1 : Int32) : Option tyX :=
  if p1 < 0 then (
  some ((3, 0, σ) : tyX)) else (
  bR (tyf_L_opened σ ) fun r2 =>
  if p1 < r2 then (
  some ((0, 0, σ) : tyX)) else (
  some ((3, 0, σ) : tyX)))
def tyf_L_standing (σ : tyS) (p1 : Int32) : Option Int32 :=
  chk (inb p1 40) (
  some ((σ.1 16 (p1).toNatClampNeg)))
def tyf_L_customer (σ : tyS) (p1 : Int32) : Option Int32 :=
  chk (inb p1 40) (
  some ((σ.1 13 (p1).toNatClampNeg)))
def tyf_L_yard (σ : tyS) (p1 : Int32) : Option Int32 :=
  chk (inb p1 40) (
  some ((σ.1 14 (p1).toNatClampNeg)))
def tyf_T_isWithin (σ : tyS) (p1 : Int32) (p2 : Int32) (p3 : Int32) : Option Int32 :=
  bR (tyf_L_standing σ p2) fun r1 =>
  if r1 = p3 then (
  bR (tyf_L_customer σ p2) fun r3 =>
  bR (tyf_B_customer σ p1) fun r4 =>
  if r3 = r4 then (
  bR (tyf_L_yard σ p2) fun r6 =>
  bR (tyf_B_yard σ p1) fun r7 =>
  if r6 = r7 then (
  some (1)) else (
  some (0))) else (
  some (0))) else (
  some (0))
def tyf_L_size (σ : tyS) (p1 : Int32) : Option Int32 :=
  chk (inb p1 40) (
  some ((σ.1 18 (p1).toNatClampNeg)))
def tyf_T_resume (σ : tyS) (p1 : Int32) (p2 : Int32) : Option tyX :=
  bX (tyf_T_requireCall σ p1) fun r2 σ1 =>
  bX (tyf_T_requireBooking σ1 p2) fun r4 σ3 =>
  bX (tyf_T_requireOngoing σ3 p1) fun r6 σ5 =>
  bR (tyf_B_openBooking σ5 p1) fun r7 =>
  if r7 = (-1) then (
  bR (tyf_T_isWithin σ5 p1 p2 1) fun r9 =>
  if r9 = 0 then (
  some ((2, 0, σ5) : tyX)) else (
  bR (tyf_L_keep σ5 p2 0) fun σ11 =>
  bR (tyf_B_setOpenBooking σ11 p1 p2) fun σ12 =>
  bR (tyf_L_size σ12 p2) fun r13 =>
  some ((0, r13, σ12) : tyX))) else (
  some ((2, 0, σ5) : tyX))
def tyf_L_get (σ : tyS) (p1 : Int32) (p2 : Int32) : Option Int32 :=
  chk (inb ((p1 * 30) + p2) 1200) (
  some ((σ.1 19 (((p1 * 30) + p2)).toNatClampNeg)))
def tyb_L_release_9 (k rec : tyS → Int32 → Int32 → Int32 → Option tyS) (σ0 : tyS) (x1 : Int32) (x2 : Int32) (x3 : Int32) : Option tyS :=
  chk (inb x1 40) (
  if (σ0.1 18 (x1).toNatClampNeg) ≤ x3 then (
  k σ0 x1 x2 x3) else (
  bR (tyf_L_get σ0 x1 x3) fun r5 =>
  chk (inb r5 30) (stp (sW σ0 20 r5 (-1)) fun σ7 =>
  rec σ7 x1 x2 (x3 + 1))))
def tyl_L_release_9 (k : tyS → Int32 → Int32 → Int32 → Option tyS) : Nat → tyS → Int32 → Int32 → Int32 → Option tyS
  | 0, _, _, _, _ => none
  | n + 1, σ0, x1, x2, x3 => tyb_L_release_9 k (tyl_L_release_9 k n) σ0 x1 x2 x3
def tyf_L_release (σ : tyS) (p1 : Int32) (p2 : Int32) : Option tyS :=
  chk (inb p1 40) (stp (sW σ 16 p1 p2) fun σ2 =>
  tyl_L_release_9 (fun σ0 x1 x2 x3 =>
  some σ0) 64 σ2 p1 p2 0)
def tyf_T_cancel (σ : tyS) (p1 : Int32) (p2 : Int32) : Option tyX :=
  bX (tyf_T_requireCall σ p1) fun r2 σ1 =>
  bX (tyf_T_requireBooking σ1 p2) fun r4 σ3 =>
  bX (tyf_T_requireOngoing σ3 p1) fun r6 σ5 =>
  bR (tyf_T_isWithin σ5 p1 p2 2) fun r7 =>
  if r7 = 0 then (
  some ((2, 0, σ5) : tyX)) else (
  bR (tyf_L_release σ5 p2 5) fun σ9 =>
  bR (tyf_L_size σ9 p2) fun r10 =>
  some ((0, r10, σ9) : tyX))
def tyf_B_end (σ : tyS) (p1 : Int32) : Option tyS :=
  chk (inb p1 60) (
  chk (inb (σ.1 21 (p1).toNatClampNeg) 6) (stp (sW σ 26 (σ.1 21 (p1).toNatClampNeg) (-1)) fun σ3 =>
  chk (inb p1 60) (
  bR (tyf_B_occupy σ3 (σ3.1 24 (p1).toNatClampNeg) (-1)) fun σ5 =>
  chk (inb p1 60) (
  bR (tyf_B_occupy σ5 (σ5.1 25 (p1).toNatClampNeg) (-1)) fun σ7 =>
  some σ7))))
def tyf_T_hangUp (σ : tyS) (p1 : Int32) : Option tyX :=
  bX (tyf_T_requireCall σ p1) fun r2 σ1 =>
  bX (tyf_T_requireOngoing σ1 p1) fun r4 σ3 =>
  bR (tyf_B_openBooking σ3 p1) fun r5 =>
  bR (tyf_B_end σ3 p1) fun σ6 =>
  if r5 = (-1) then (
  some ((0, 0, σ6) : tyX)) else (
  bR (tyf_L_release σ6 r5 5) fun σ8 =>
  bR (tyf_L_size σ8 r5) fun r9 =>
  some ((0, r9, σ8) : tyX))
def tyf_T_callOf (σ : tyS) (p1 : Int32) : Option tyX :=
  bX (tyf_T_requireCustomer σ p1) fun r2 σ1 =>
  bR (tyf_B_ongoing σ1 p1) fun r3 =>
  some ((0, r3, σ1) : tyX)
def tyf_B_trunksOf (σ : tyS) (p1 : Int32) : Option Int32 :=
  chk (inb p1 60) (
  if (σ.1 24 (p1).toNatClampNeg) = (-1) then (
  chk (inb p1 60) (
  if (σ.1 25 (p1).toNatClampNeg) = (-1) then (
  some ((0 + 0))) else (
  some ((0 + 1))))) else (
  chk (inb p1 60) (
  if (σ.1 25 (p1).toNatClampNeg) = (-1) then (
  some ((1 + 0))) else (
  some ((1 + 1))))))
def tyf_T_way (σ : tyS) (p1 : Int32) : Option tyX :=
  bX (tyf_T_requireCall σ p1) fun r2 σ1 =>
  bX (tyf_T_requireOngoing σ1 p1) fun r4 σ3 =>
  bR (tyf_B_trunksOf σ3 p1) fun r5 =>
  some ((0, r5, σ3) : tyX)
def tyf_T_busy (σ : tyS) : Option Int32 :=
  some ((σ.2 2))
def tyf_T_isExchange (σ : tyS) (p0 : Int32) : Option Int32 :=
  if p0 < 0 then (
  some (0)) else (
  if 3 ≤ p0 then (
  some (0)) else (
  some (1)))
def tyf_T_requireTrunk (σ : tyS) (p0 : Int32) (p1 : Int32) (p2 : Int32) : Option tyX :=
  bR (tyf_T_isExchange σ p0) fun r1 =>
  if r1 = 0 then (
  some ((1, 0, σ) : tyX)) else (
  bR (tyf_T_isExchange σ p1) fun r3 =>
  if r3 = 0 then (
  some ((1, 0, σ) : tyX)) else (
  if p0 = p1 then (
  some ((1, 0, σ) : tyX)) else (
  if p2 < 0 then (
  some ((1, 0, σ) : tyX)) else (
  if p2 < 2 then (
  some ((0, 0, σ) : tyX)) else (
  some ((1, 0, σ) : tyX))))))
def tyf_B_trunkHas (σ : tyS) (p1 : Int32) : Option Int32 :=
  chk (inb p1 6) (
  some ((σ.1 27 (p1).toNatClampNeg)))
def tyf_B_setTrunk (σ : tyS) (p1 : Int32) (p2 : Int32) : Option tyS :=
  chk (inb p1 6) (stp (sW σ 27 p1 p2) fun σ2 =>
  some σ2)
def tyf_L_halve (σ : tyS) (p1 : Int32) (p2 : Int32) : Option tyS :=
  chk (inb p1 40) (stp (sW σ 16 p1 1) fun σ2 =>
  chk (inb p1 40) (stp (sW σ2 17 p1 (p2 + 10)) fun σ4 =>
  some σ4))
def tyf_T_cutOff (σ : tyS) (p1 : Int32) : Option tyS :=
  bR (tyf_B_openBooking σ p1) fun r1 =>
  bR (tyf_B_end σ p1) fun σ2 =>
  if r1 = (-1) then (
  some σ2) else (
  bR (tyf_L_halve σ2 r1 (σ2.2 3)) fun σ4 =>
  some σ4)
def tyf_T_cut (σ : tyS) (p1 : Int32) (p2 : Int32) (p3 : Int32) : Option tyX :=
  bX (tyf_T_requireTrunk σ p1 p2 p3) fun r2 σ1 =>
  bR (tyf_T_slotOf σ1 p1 p2 p3) fun r3 =>
  bR (tyf_B_trunkHas σ1 r3) fun r4 =>
  if r4 = (-2) then (
  some ((2, 0, σ1) : tyX)) else (
  if r4 = (-1) then (
  bR (tyf_B_setTrunk σ1 r3 (-2)) fun σ7 =>
  some ((0, r4, σ7) : tyX)) else (
  bR (tyf_T_cutOff σ1 r4) fun σ8 =>
  bR (tyf_B_setTrunk σ8 r3 (-2)) fun σ9 =>
  some ((0, r4, σ9) : tyX)))
def tyf_T_mend (σ : tyS) (p1 : Int32) (p2 : Int32) (p3 : Int32) : Option tyX :=
  bX (tyf_T_requireTrunk σ p1 p2 p3) fun r2 σ1 =>
  bR (tyf_T_slotOf σ1 p1 p2 p3) fun r3 =>
  bR (tyf_B_trunkHas σ1 r3) fun r4 =>
  if r4 = (-2) then (
  bR (tyf_B_setTrunk σ1 r3 (-1)) fun σ6 =>
  some ((0, 0, σ6) : tyX)) else (
  some ((2, 0, σ1) : tyX))
def tyf_T_trunk (σ : tyS) (p1 : Int32) (p2 : Int32) (p3 : Int32) : Option tyX :=
  bX (tyf_T_requireTrunk σ p1 p2 p3) fun r2 σ1 =>
  bR (tyf_T_slotOf σ1 p1 p2 p3) fun r3 =>
  bR (tyf_B_trunkHas σ1 r3) fun r4 =>
  some ((0, r4, σ1) : tyX)
def tyf_B_changeLines (σ : tyS) (p1 : Int32) (p2 : Int32) : Option (Int32 × tyS) :=
  chk (inb p1 3) (
  chk (inb p1 3) (stp (sW σ 28 p1 p2) fun σ3 =>
  some ((σ.1 28 (p1).toNatClampNeg), σ3)))
def tyf_T_setLines (σ : tyS) (p1 : Int32) (p2 : Int32) : Option tyX :=
  bX (tyf_T_requireYard σ p1) fun r2 σ1 =>
  if p2 < 0 then (
  some ((1, 0, σ1) : tyX)) else (
  if p2 ≤ 3 then (
  bR (tyf_B_callsTo σ1 p1) fun r5 =>
  if r5 ≤ p2 then (
  bN (tyf_B_changeLines σ1 p1 p2) fun r8 σ7 =>
  some ((0, r8, σ7) : tyX)) else (
  some ((2, 0, σ1) : tyX))) else (
  some ((1, 0, σ1) : tyX)))
def tyb_L_lapseAll_4 (k rec : tyS → Int32 → Int32 → Int32 → Option (Int32 × tyS)) (σ0 : tyS) (x1 : Int32) (x2 : Int32) (x3 : Int32) : Option (Int32 × tyS) :=
  if (σ0.2 5) ≤ x3 then (
  k σ0 x1 x2 x3) else (
  chk (inb x3 40) (
  if (σ0.1 16 (x3).toNatClampNeg) = 1 then (
  chk (inb x3 40) (
  if x1 < (σ0.1 17 (x3).toNatClampNeg) then (
  rec σ0 x1 x2 (x3 + 1)) else (
  bR (tyf_L_release σ0 x3 5) fun σ6 =>
  rec σ6 x1 (x2 + 1) (x3 + 1)))) else (
  rec σ0 x1 x2 (x3 + 1))))
def tyl_L_lapseAll_4 (k : tyS → Int32 → Int32 → Int32 → Option (Int32 × tyS)) : Nat → tyS → Int32 → Int32 → Int32 → Option (Int32 × tyS)
  | 0, _, _, _, _ => none
  | n + 1, σ0, x1, x2, x3 => tyb_L_lapseAll_4 k (tyl_L_lapseAll_4 k n) σ0 x1 x2 x3
def tyf_L_lapseAll (σ : tyS) (p1 : Int32) : Option (Int32 × tyS) :=
  tyl_L_lapseAll_4 (fun σ0 x1 x2 x3 =>
  some (x2, σ0)) 64 σ p1 0 0
def tyf_T_pass (σ : tyS) (p1 : Int32) : Option tyX :=
  if p1 < 1 then (
  some ((1, 0, σ) : tyX)) else (
  if p1 ≤ 100 then (
  if ((σ.2 3) + p1) ≤ 10000 then (
  stp (sV σ 3 ((σ.2 3) + p1)) fun σ4 =>
  bN (tyf_L_lapseAll σ4 (σ4.2 3)) fun r6 σ5 =>
  some ((0, r6, σ5) : tyX)) else (
  some ((2, 0, σ) : tyX))) else (
  some ((1, 0, σ) : tyX)))
def tyf_T_bookings (σ : tyS) : Option Int32 :=
  bR (tyf_L_opened σ ) fun r1 =>
  some (r1)
def tyf_T_state (σ : tyS) (p1 : Int32) : Option tyX :=
  bX (tyf_T_requireBooking σ p1) fun r2 σ1 =>
  bR (tyf_L_standing σ1 p1) fun r3 =>
  some ((0, r3, σ1) : tyX)
def tyf_T_wagons (σ : tyS) (p1 : Int32) : Option tyX :=
  bX (tyf_T_requireBooking σ p1) fun r2 σ1 =>
  bR (tyf_L_size σ1 p1) fun r3 =>
  some ((0, r3, σ1) : tyX)
def tyf_T_wagonOf (σ : tyS) (p1 : Int32) (p2 : Int32) : Option tyX :=
  bX (tyf_T_requireBooking σ p1) fun r2 σ1 =>
  if p2 < 0 then (
  some ((3, 0, σ1) : tyX)) else (
  bR (tyf_L_size σ1 p1) fun r4 =>
  if p2 < r4 then (
  bR (tyf_L_get σ1 p1 p2) fun r6 =>
  some ((0, r6, σ1) : tyX)) else (
  some ((3, 0, σ1) : tyX)))
def tyf_L_lapseTick (σ : tyS) (p1 : Int32) : Option Int32 :=
  chk (inb p1 40) (
  some ((σ.1 17 (p1).toNatClampNeg)))
def tyf_T_lapses (σ : tyS) (p1 : Int32) : Option tyX :=
  bX (tyf_T_requireBooking σ p1) fun r2 σ1 =>
  bR (tyf_L_standing σ1 p1) fun r3 =>
  if r3 = 1 then (
  bR (tyf_L_lapseTick σ1 p1) fun r5 =>
  some ((0, (r5 - (σ1.2 3)), σ1) : tyX)) else (
  some ((2, 0, σ1) : tyX))
def tyb_T_standsWhole_5 (σ : tyS) (k rec : Int32 → Int32 → Int32 → Int32 → Option Int32) (x1 : Int32) (x2 : Int32) (x3 : Int32) (x4 : Int32) : Option Int32 :=
  bR (tyf_R1_count σ x2) fun r1 =>
  if r1 ≤ x4 then (
  k  x1 x2 x3 x4) else (
  bR (tyf_R1_get σ x2 x4) fun r3 =>
  bR (tyf_L_bookingFor σ r3) fun r4 =>
  if r4 = x1 then (
  rec  x1 x2 (x3 + 1) (x4 + 1)) else (
  rec  x1 x2 x3 (x4 + 1)))
def tyl_T_standsWhole_5 (σ : tyS) (k : Int32 → Int32 → Int32 → Int32 → Option Int32) : Nat → Int32 → Int32 → Int32 → Int32 → Option Int32
  | 0, _, _, _, _ => none
  | n + 1, x1, x2, x3, x4 => tyb_T_standsWhole_5 σ k (tyl_T_standsWhole_5 σ k n) x1 x2 x3 x4
def tyf_T_standsWhole (σ : tyS) (p1 : Int32) (p2 : Int32) : Option Int32 :=
  tyl_T_standsWhole_5 σ (fun x1 x2 x3 x4 =>
  bR (tyf_L_size σ x1) fun r6 =>
  if x3 = r6 then (
  some (1)) else (
  some (0))) 64  p1 p2 0 0
def tyb_T_canDepart_11 (σ : tyS) (k rec : Int32 → Int32 → Int32 → Option Int32) (x1 : Int32) (x2 : Int32) (x3 : Int32) : Option Int32 :=
  if x2 ≤ x3 then (
  k  x1 x2 x3) else (
  bR (tyf_R1_get σ x1 x3) fun r3 =>
  bR (tyf_L_bookingFor σ r3) fun r4 =>
  if r4 = (-1) then (
  some (0)) else (
  bR (tyf_L_standing σ r4) fun r6 =>
  if r6 = 2 then (
  bR (tyf_T_standsWhole σ r4 x1) fun r8 =>
  if r8 = 0 then (
  some (0)) else (
  rec  x1 x2 (x3 + 1))) else (
  some (0))))
def tyl_T_canDepart_11 (σ : tyS) (k : Int32 → Int32 → Int32 → Option Int32) : Nat → Int32 → Int32 → Int32 → Option Int32
  | 0, _, _, _ => none
  | n + 1, x1, x2, x3 => tyb_T_canDepart_11 σ k (tyl_T_canDepart_11 σ k n) x1 x2 x3
def tyf_T_canDepart (σ : tyS) (p1 : Int32) : Option Int32 :=
  bR (tyf_R1_count σ p1) fun r1 =>
  tyl_T_canDepart_11 σ (fun x1 x2 x3 =>
  if x2 ≤ 0 then (
  some (0)) else (
  some (1))) 64  p1 r1 0
def tyb_T_load_2 (k rec : tyS → Int32 → Int32 → Option tyS) (σ0 : tyS) (x1 : Int32) (x2 : Int32) : Option tyS :=
  bR (tyf_R1_count σ0 x1) fun r1 =>
  if r1 ≤ x2 then (
  k σ0 x1 x2) else (
  bR (tyf_R1_get σ0 x1 x2) fun r3 =>
  bR (tyf_L_bookingFor σ0 r3) fun r4 =>
  if r4 = (-1) then (
  rec σ0 x1 (x2 + 1)) else (
  bR (tyf_L_grain σ0 r4) fun r6 =>
  chk (inb r3 30) (stp (sW σ0 29 r3 r6) fun σ8 =>
  bR (tyf_L_keep σ8 r4 3) fun σ9 =>
  rec σ9 x1 (x2 + 1))))
def tyl_T_load_2 (k : tyS → Int32 → Int32 → Option tyS) : Nat → tyS → Int32 → Int32 → Option tyS
  | 0, _, _, _ => none
  | n + 1, σ0, x1, x2 => tyb_T_load_2 k (tyl_T_load_2 k n) σ0 x1 x2
def tyf_T_load (σ : tyS) (p1 : Int32) : Option tyS :=
  tyl_T_load_2 (fun σ0 x1 x2 =>
  some σ0) 64 σ p1 0
def tyf_T_depart (σ : tyS) (p1 : Int32) (p2 : Int32) (p3 : Int32) : Option tyX :=
  bX (tyf_T_requireTrack σ p1 p2) fun r2 σ1 =>
  bX (tyf_T_requireYard σ1 p3) fun r4 σ3 =>
  if p1 = p3 then (
  some ((1, 0, σ3) : tyX)) else (
  bR (tyf_T_rowOf σ3 p1 p2) fun r6 =>
  if 40 ≤ (σ3.2 1) then (
  some ((2, 0, σ3) : tyX)) else (
  bR (tyf_T_canDepart σ3 r6) fun r8 =>
  if r8 = 0 then (
  some ((2, 0, σ3) : tyX)) else (
  stp (sV σ3 1 ((σ3.2 1) + 1)) fun σ10 =>
  chk (inb (σ3.2 1) 40) (stp (sW σ10 31 (σ3.2 1) p3) fun σ12 =>
  bR (tyf_T_load σ12 r6) fun σ13 =>
  bR (tyf_R1_count σ13 r6) fun r14 =>
  bR (tyf_T_moveLast σ13 r6 (15 + (σ3.2 1)) r14) fun σ15 =>
  some ((0, (σ3.2 1), σ15) : tyX)))))
def tyb_T_unload_2 (k rec : tyS → Int32 → Int32 → Option tyS) (σ0 : tyS) (x1 : Int32) (x2 : Int32) : Option tyS :=
  bR (tyf_R1_count σ0 x1) fun r1 =>
  if r1 ≤ x2 then (
  k σ0 x1 x2) else (
  bR (tyf_R1_get σ0 x1 x2) fun r3 =>
  bR (tyf_L_bookingFor σ0 r3) fun r4 =>
  if r4 = (-1) then (
  rec σ0 x1 (x2 + 1)) else (
  bR (tyf_L_release σ0 r4 4) fun σ6 =>
  rec σ6 x1 (x2 + 1)))
def tyl_T_unload_2 (k : tyS → Int32 → Int32 → Option tyS) : Nat → tyS → Int32 → Int32 → Option tyS
  | 0, _, _, _ => none
  | n + 1, σ0, x1, x2 => tyb_T_unload_2 k (tyl_T_unload_2 k n) σ0 x1 x2
def tyf_T_unload (σ : tyS) (p1 : Int32) : Option tyS :=
  tyl_T_unload_2 (fun σ0 x1 x2 =>
  some σ0) 64 σ p1 0
def tyf_T_arrive (σ : tyS) (p1 : Int32) (p2 : Int32) : Option tyX :=
  if p1 < 0 then (
  some ((3, 0, σ) : tyX)) else (
  if p1 < (σ.2 1) then (
  bR (tyf_T_isTrack σ p2) fun r3 =>
  if r3 = 0 then (
  some ((1, 0, σ) : tyX)) else (
  chk (inb p1 40) (
  bR (tyf_T_rowOf σ (σ.1 31 (p1).toNatClampNeg) p2) fun r6 =>
  bR (tyf_R1_count σ (15 + p1)) fun r7 =>
  if r7 = 0 then (
  some ((2, 0, σ) : tyX)) else (
  bR (tyf_R1_hasRoom σ r6 r7) fun r9 =>
  if r9 = 0 then (
  some ((2, 0, σ) : tyX)) else (
  bR (tyf_T_unload σ (15 + p1)) fun σ11 =>
  bR (tyf_T_moveLast σ11 (15 + p1) r6 r7) fun σ12 =>
  bR (tyf_R1_count σ12 r6) fun r13 =>
  some ((0, r13, σ12) : tyX)))))) else (
  some ((3, 0, σ) : tyX)))
def tyf_T_trains (σ : tyS) : Option Int32 :=
  some ((σ.2 1))
/-! ===== the methods as values: TrunkYardsModel ===== -/
def tyf_M_thrown (σ : tyS) : Option Int32 :=
  some ((σ.2 0))
def tyf_M_in (σ : tyS) (p0 : Int32) (p1 : Int32) (p2 : Int32) : Option Int32 :=
  if p0 < p1 then (
  some (0)) else (
  if p2 < p0 then (
  some (0)) else (
  some (1)))
def tyf_M_isYard (σ : tyS) (p0 : Int32) : Option Int32 :=
  bR (tyf_M_in σ p0 0 2) fun r1 =>
  chk (decide (vp_nar .boolean r1 = r1)) (
  some (r1))
def tyf_M_isTrack (σ : tyS) (p0 : Int32) (p1 : Int32) : Option Int32 :=
  bR (tyf_M_isYard σ p0) fun r1 =>
  if r1 = 0 then (
  some (0)) else (
  bR (tyf_M_in σ p1 0 4) fun r3 =>
  if r3 = 0 then (
  some (0)) else (
  some (1)))
def tyf_M_puts (σ : tyS) (p1 : Int32) (p2 : Int32) (p3 : Int32) : Option tyS :=
  chk (inb ((5 * p1) + p2) 15) (
  chk (inb ((6 * ((5 * p1) + p2)) + (σ.1 4 (((5 * p1) + p2)).toNatClampNeg)) 90) (stp (sW σ 5 ((6 * ((5 * p1) + p2)) + (σ.1 4 (((5 * p1) + p2)).toNatClampNeg)) p3) fun σ3 =>
  chk (inb ((5 * p1) + p2) 15) (
  chk (inb ((5 * p1) + p2) 15) (stp (sW σ3 4 ((5 * p1) + p2) ((σ3.1 4 (((5 * p1) + p2)).toNatClampNeg) + 1)) fun σ6 =>
  chk (inb p3 30) (stp (sW σ6 1 p3 ((10 * p1) + p2)) fun σ8 =>
  some σ8)))))
def tyf_M_wagon (σ : tyS) (p1 : Int32) (p2 : Int32) : Option (Int32 × tyS) :=
  bR (tyf_M_isTrack σ p1 p2) fun r1 =>
  if r1 = 0 then (
  stp (sV σ 0 1) fun σ15 =>
  some (0, σ15)) else (
  if (σ.2 2) = 30 then (
  stp (sV σ 0 2) fun σ4 =>
  some (0, σ4)) else (
  chk (inb ((5 * p1) + p2) 15) (
  if (σ.1 4 (((5 * p1) + p2)).toNatClampNeg) = 6 then (
  stp (sV σ 0 2) fun σ14 =>
  some (0, σ14)) else (
  stp (sV σ 0 0) fun σ7 =>
  chk (inb (σ7.2 2) 30) (stp (sW σ7 2 (σ7.2 2) (-1)) fun σ9 =>
  chk (inb (σ9.2 2) 30) (stp (sW σ9 3 (σ9.2 2) (-1)) fun σ11 =>
  bR (tyf_M_puts σ11 p1 p2 (σ11.2 2)) fun σ12 =>
  stp (sV σ12 2 ((σ12.2 2) + 1)) fun σ13 =>
  some (((σ13.2 2) - 1), σ13)))))))
def tyb_M_shunt_121 (k rec : tyS → Int32 → Int32 → Int32 → Int32 → Int32 → Int32 → Int32 → Option (Int32 × tyS)) (σ0 : tyS) (x1 : Int32) (x2 : Int32) (x3 : Int32) (x4 : Int32) (x5 : Int32) (x6 : Int32) (x7 : Int32) : Option (Int32 × tyS) :=
  if x4 ≤ x7 then (
  k σ0 x1 x2 x3 x4 x5 x6 x7) else (
  chk (inb x6 15) (
  chk (inb (((6 * x6) + (σ0.1 4 (x6).toNatClampNeg)) + x7) 90) (
  bR (tyf_M_puts σ0 x1 x3 (σ0.1 5 ((((6 * x6) + (σ0.1 4 (x6).toNatClampNeg)) + x7)).toNatClampNeg)) fun σ24 =>
  rec σ24 x1 x2 x3 x4 x5 x6 (x7 + 1))))
def tyl_M_shunt_121 (k : tyS → Int32 → Int32 → Int32 → Int32 → Int32 → Int32 → Int32 → Option (Int32 × tyS)) : Nat → tyS → Int32 → Int32 → Int32 → Int32 → Int32 → Int32 → Int32 → Option (Int32 × tyS)
  | 0, _, _, _, _, _, _, _, _ => none
  | n + 1, σ0, x1, x2, x3, x4, x5, x6, x7 => tyb_M_shunt_121 k (tyl_M_shunt_121 k n) σ0 x1 x2 x3 x4 x5 x6 x7
def tyf_M_shunt (σ : tyS) (p1 : Int32) (p2 : Int32) (p3 : Int32) (p4 : Int32) : Option (Int32 × tyS) :=
  bR (tyf_M_isTrack σ p1 p2) fun r1 =>
  if r1 = 0 then (
  stp (sV σ 0 1) fun σ3 =>
  some (0, σ3)) else (
  bR (tyf_M_isTrack σ p1 p3) fun r4 =>
  if r4 = 0 then (
  stp (sV σ 0 1) fun σ6 =>
  some (0, σ6)) else (
  if p2 = p3 then (
  stp (sV σ 0 1) fun σ8 =>
  some (0, σ8)) else (
  bR (tyf_M_in σ p4 1 6) fun r9 =>
  if r9 = 0 then (
  stp (sV σ 0 1) fun σ11 =>
  some (0, σ11)) else (
  chk (inb ((5 * p1) + p2) 15) (
  if (σ.1 4 (((5 * p1) + p2)).toNatClampNeg) < p4 then (
  stp (sV σ 0 2) fun σ14 =>
  some (0, σ14)) else (
  chk (inb ((5 * p1) + p3) 15) (
  if ((σ.1 4 (((5 * p1) + p3)).toNatClampNeg) + p4) ≤ 6 then (
  stp (sV σ 0 0) fun σ17 =>
  chk (inb ((5 * p1) + p2) 15) (
  chk (inb ((5 * p1) + p2) 15) (stp (sW σ17 4 ((5 * p1) + p2) ((σ17.1 4 (((5 * p1) + p2)).toNatClampNeg) - p4)) fun σ20 =>
  tyl_M_shunt_121 (fun σ0 x1 x2 x3 x4 x5 x6 x7 =>
  chk (inb ((5 * x1) + x3) 15) (
  some ((σ0.1 4 (((5 * x1) + x3)).toNatClampNeg), σ0))) 64 σ20 p1 p2 p3 p4 1 ((5 * p1) + p2) 0))) else (
  stp (sV σ 0 2) fun σ26 =>
  some (0, σ26)))))))))
def tyf_M_wash (σ : tyS) (p1 : Int32) : Option (Int32 × tyS) :=
  bR (tyf_M_isYard σ p1) fun r1 =>
  if r1 = 0 then (
  stp (sV σ 0 1) fun σ12 =>
  some (0, σ12)) else (
  chk (inb (5 * p1) 15) (
  if (σ.1 4 ((5 * p1)).toNatClampNeg) = 0 then (
  stp (sV σ 0 2) fun σ11 =>
  some (0, σ11)) else (
  stp (sV σ 0 0) fun σ5 =>
  chk (inb (5 * p1) 15) (
  chk (inb (((6 * (5 * p1)) + (σ5.1 4 ((5 * p1)).toNatClampNeg)) - 1) 90) (
  chk (inb (σ5.1 5 ((((6 * (5 * p1)) + (σ5.1 4 ((5 * p1)).toNatClampNeg)) - 1)).toNatClampNeg) 30) (
  chk (inb (σ5.1 5 ((((6 * (5 * p1)) + (σ5.1 4 ((5 * p1)).toNatClampNeg)) - 1)).toNatClampNeg) 30) (stp (sW σ5 2 (σ5.1 5 ((((6 * (5 * p1)) + (σ5.1 4 ((5 * p1)).toNatClampNeg)) - 1)).toNatClampNeg) (-1)) fun σ10 =>
  some ((σ5.1 2 ((σ5.1 5 ((((6 * (5 * p1)) + (σ5.1 4 ((5 * p1)).toNatClampNeg)) - 1)).toNatClampNeg)).toNatClampNeg), σ10))))))))
def tyf_M_isGrain (σ : tyS) (p0 : Int32) : Option Int32 :=
  bR (tyf_M_in σ p0 0 3) fun r1 =>
  chk (decide (vp_nar .boolean r1 = r1)) (
  some (r1))
def tyf_M_follow (σ : tyS) (p1 : Int32) (p2 : Int32) : Option (Int32 × tyS) :=
  bR (tyf_M_isGrain σ p1) fun r1 =>
  if r1 = 0 then (
  stp (sV σ 0 1) fun σ3 =>
  some (0, σ3)) else (
  bR (tyf_M_isGrain σ p2) fun r4 =>
  if r4 = 0 then (
  stp (sV σ 0 1) fun σ6 =>
  some (0, σ6)) else (
  if p1 = p2 then (
  stp (sV σ 0 1) fun σ8 =>
  some (0, σ8)) else (
  stp (sV σ 0 0) fun σ9 =>
  chk (inb p1 4) (
  chk (inb p1 4) (stp (sW σ9 6 p1 ((σ9.1 6 (p1).toNatClampNeg) ^^^ (1 <<< (p2 &&& 31)))) fun σ12 =>
  chk (inb p1 4) (
  if (((σ12.1 6 (p1).toNatClampNeg) >>> (p2 &&& 31)) &&& 1) = 1 then (
  some (1, σ12)) else (
  some (0, σ12))))))))
def tyf_M_on (σ : tyS) (p1 : Int32) (p2 : Int32) : Option (Int32 × tyS) :=
  bR (tyf_M_isTrack σ p1 p2) fun r1 =>
  if r1 = 0 then (
  stp (sV σ 0 1) fun σ3 =>
  some (0, σ3)) else (
  stp (sV σ 0 0) fun σ4 =>
  chk (inb ((5 * p1) + p2) 15) (
  some ((σ4.1 4 (((5 * p1) + p2)).toNatClampNeg), σ4)))
def tyf_M_wagonAt (σ : tyS) (p1 : Int32) (p2 : Int32) (p3 : Int32) : Option (Int32 × tyS) :=
  bR (tyf_M_isTrack σ p1 p2) fun r1 =>
  if r1 = 0 then (
  stp (sV σ 0 1) fun σ9 =>
  some (0, σ9)) else (
  chk (inb ((5 * p1) + p2) 15) (
  bR (tyf_M_in σ p3 0 ((σ.1 4 (((5 * p1) + p2)).toNatClampNeg) - 1)) fun r4 =>
  if r4 = 0 then (
  stp (sV σ 0 2) fun σ6 =>
  some (0, σ6)) else (
  stp (sV σ 0 0) fun σ7 =>
  chk (inb ((6 * ((5 * p1) + p2)) + p3) 90) (
  some ((σ7.1 5 (((6 * ((5 * p1) + p2)) + p3)).toNatClampNeg), σ7)))))
def tyf_M_at (σ : tyS) (p1 : Int32) (p2 : Int32) (p3 : Int32) : Option (Int32 × tyS) :=
  bN (tyf_M_wagonAt σ p1 p2 p3) fun r2 σ1 =>
  some (r2, σ1)
def tyf_M_atByReplay (σ : tyS) (p1 : Int32) (p2 : Int32) (p3 : Int32) : Option (Int32 × tyS) :=
  bN (tyf_M_wagonAt σ p1 p2 p3) fun r2 σ1 =>
  some (r2, σ1)
def tyf_M_isWagon (σ : tyS) (p1 : Int32) : Option Int32 :=
  bR (tyf_M_in σ p1 0 ((σ.2 2) - 1)) fun r1 =>
  chk (decide (vp_nar .boolean r1 = r1)) (
  some (r1))
def tyf_M_asksWagon (σ : tyS) (p1 : Int32) : Option (Int32 × tyS) :=
  bR (tyf_M_isWagon σ p1) fun r1 =>
  if r1 = 0 then (
  stp (sV σ 0 1) fun σ3 =>
  some (0, σ3)) else (
  stp (sV σ 0 0) fun σ4 =>
  some (1, σ4))
def tyf_M_where (σ : tyS) (p1 : Int32) : Option (Int32 × tyS) :=
  bN (tyf_M_asksWagon σ p1) fun r2 σ1 =>
  if r2 = 0 then (
  some (0, σ1)) else (
  chk (inb p1 30) (
  some ((σ1.1 1 (p1).toNatClampNeg), σ1)))
def tyf_M_carried (σ : tyS) (p1 : Int32) : Option (Int32 × tyS) :=
  bN (tyf_M_asksWagon σ p1) fun r2 σ1 =>
  if r2 = 0 then (
  some (0, σ1)) else (
  chk (inb p1 30) (
  some ((σ1.1 2 (p1).toNatClampNeg), σ1)))
def tyf_M_isPromised (σ : tyS) (p1 : Int32) : Option Int32 :=
  chk (inb p1 30) (
  if (σ.1 3 (p1).toNatClampNeg) = (-1) then (
  some (0)) else (
  chk (inb p1 30) (
  chk (inb (σ.1 3 (p1).toNatClampNeg) 40) (
  if 4 ≤ (σ.1 13 ((σ.1 3 (p1).toNatClampNeg)).toNatClampNeg) then (
  some (0)) else (
  some (1))))))
def tyf_M_promised (σ : tyS) (p1 : Int32) : Option (Int32 × tyS) :=
  bN (tyf_M_asksWagon σ p1) fun r2 σ1 =>
  if r2 = 0 then (
  some (0, σ1)) else (
  bR (tyf_M_isPromised σ1 p1) fun r4 =>
  if r4 = 0 then (
  some ((-1), σ1)) else (
  chk (inb p1 30) (
  some ((σ1.1 3 (p1).toNatClampNeg), σ1))))
def tyb_M_callNow_4 (σ : tyS) (k rec : Int32 → Int32 → Int32 → Option Int32) (x1 : Int32) (x2 : Int32) (x3 : Int32) : Option Int32 :=
  if (σ.2 3) ≤ x3 then (
  k  x1 x2 x3) else (
  chk (inb x3 60) (
  if (σ.1 11 (x3).toNatClampNeg) = 0 then (
  rec  x1 x2 (x3 + 1)) else (
  chk (inb x3 60) (
  if (σ.1 9 (x3).toNatClampNeg) = x1 then (
  rec  x1 x3 (x3 + 1)) else (
  rec  x1 x2 (x3 + 1))))))
def tyl_M_callNow_4 (σ : tyS) (k : Int32 → Int32 → Int32 → Option Int32) : Nat → Int32 → Int32 → Int32 → Option Int32
  | 0, _, _, _ => none
  | n + 1, x1, x2, x3 => tyb_M_callNow_4 σ k (tyl_M_callNow_4 σ k n) x1 x2 x3
def tyf_M_callNow (σ : tyS) (p1 : Int32) : Option Int32 :=
  tyl_M_callNow_4 σ (fun x1 x2 x3 =>
  some (x2)) 64  p1 (-1) 0
def tyb_M_callsTo_4 (σ : tyS) (k rec : Int32 → Int32 → Int32 → Option Int32) (x1 : Int32) (x2 : Int32) (x3 : Int32) : Option Int32 :=
  if (σ.2 3) ≤ x3 then (
  k  x1 x2 x3) else (
  chk (inb x3 60) (
  if (σ.1 11 (x3).toNatClampNeg) = 0 then (
  rec  x1 (x2 + 0) (x3 + 1)) else (
  chk (inb x3 60) (
  if (σ.1 10 (x3).toNatClampNeg) = x1 then (
  rec  x1 (x2 + 1) (x3 + 1)) else (
  rec  x1 (x2 + 0) (x3 + 1))))))
def tyl_M_callsTo_4 (σ : tyS) (k : Int32 → Int32 → Int32 → Option Int32) : Nat → Int32 → Int32 → Int32 → Option Int32
  | 0, _, _, _ => none
  | n + 1, x1, x2, x3 => tyb_M_callsTo_4 σ k (tyl_M_callsTo_4 σ k n) x1 x2 x3
def tyf_M_callsTo (σ : tyS) (p1 : Int32) : Option Int32 :=
  tyl_M_callsTo_4 σ (fun x1 x2 x3 =>
  some (x2)) 64  p1 0 0
def tyf_M_between (σ : tyS) (p0 : Int32) (p1 : Int32) : Option Int32 :=
  some ((2 * ((p0 + p1) - 1)))
def tyf_M_freeBetween (σ : tyS) (p1 : Int32) (p2 : Int32) : Option Int32 :=
  bR (tyf_M_between σ p1 p2) fun r1 =>
  chk (inb r1 6) (
  if (σ.1 7 (r1).toNatClampNeg) = (-1) then (
  some (r1)) else (
  chk (inb (r1 + 1) 6) (
  if (σ.1 7 ((r1 + 1)).toNatClampNeg) = (-1) then (
  some ((r1 + 1))) else (
  some ((-1))))))
def tyf_M_takesWay (σ : tyS) (p1 : Int32) (p2 : Int32) : Option (Int32 × tyS) :=
  if p1 = p2 then (
  some (1, σ)) else (
  bR (tyf_M_freeBetween σ p1 p2) fun r2 =>
  bR (tyf_M_freeBetween σ p1 ((3 - p1) - p2)) fun r3 =>
  bR (tyf_M_freeBetween σ ((3 - p1) - p2) p2) fun r4 =>
  if r2 = (-1) then (
  if r3 = (-1) then (
  some (0, σ)) else (
  if r4 = (-1) then (
  some (0, σ)) else (
  chk (inb r3 6) (stp (sW σ 7 r3 (σ.2 3)) fun σ9 =>
  chk (inb r4 6) (stp (sW σ9 7 r4 (σ9.2 3)) fun σ11 =>
  some (1, σ11)))))) else (
  chk (inb r2 6) (stp (sW σ 7 r2 (σ.2 3)) fun σ13 =>
  some (1, σ13))))
def tyf_M_call (σ : tyS) (p1 : Int32) (p2 : Int32) : Option (Int32 × tyS) :=
  bR (tyf_M_in σ p1 0 5) fun r1 =>
  if r1 = 0 then (
  stp (sV σ 0 1) fun σ3 =>
  some (0, σ3)) else (
  bR (tyf_M_isYard σ p2) fun r4 =>
  if r4 = 0 then (
  stp (sV σ 0 1) fun σ29 =>
  some (0, σ29)) else (
  bR (tyf_M_callNow σ p1) fun r6 =>
  if r6 = (-1) then (
  if (σ.2 3) = 60 then (
  stp (sV σ 0 2) fun σ28 =>
  some (0, σ28)) else (
  stp (sV σ 0 0) fun σ10 =>
  bR (tyf_M_callsTo σ10 p2) fun r11 =>
  chk (inb p2 3) (
  if (σ10.1 8 (p2).toNatClampNeg) ≤ r11 then (
  stp (sV σ10 4 ((σ10.2 4) + 1)) fun σ14 =>
  some ((-1), σ14)) else (
  bN (tyf_M_takesWay σ10 (p1 - p1 / 3 * 3) p2) fun r16 σ15 =>
  if r16 = 0 then (
  stp (sV σ15 4 ((σ15.2 4) + 1)) fun σ27 =>
  some ((-1), σ27)) else (
  chk (inb (σ15.2 3) 60) (stp (sW σ15 9 (σ15.2 3) p1) fun σ19 =>
  chk (inb (σ19.2 3) 60) (stp (sW σ19 10 (σ19.2 3) p2) fun σ21 =>
  chk (inb (σ21.2 3) 60) (stp (sW σ21 11 (σ21.2 3) 1) fun σ23 =>
  chk (inb (σ23.2 3) 60) (stp (sW σ23 12 (σ23.2 3) (-1)) fun σ25 =>
  stp (sV σ25 3 ((σ25.2 3) + 1)) fun σ26 =>
  some (((σ26.2 3) - 1), σ26)))))))))) else (
  stp (sV σ 0 2) fun σ8 =>
  some (0, σ8))))
def tyf_M_isCall (σ : tyS) (p1 : Int32) : Option Int32 :=
  bR (tyf_M_in σ p1 0 ((σ.2 3) - 1)) fun r1 =>
  chk (decide (vp_nar .boolean r1 = r1)) (
  some (r1))
def tyf_M_fits (σ : tyS) (p1 : Int32) (p2 : Int32) : Option Int32 :=
  chk (inb p1 30) (
  if (σ.1 2 (p1).toNatClampNeg) = (-1) then (
  some (1)) else (
  chk (inb p1 30) (
  if (σ.1 2 (p1).toNatClampNeg) = p2 then (
  some (1)) else (
  chk (inb p1 30) (
  chk (inb (σ.1 2 (p1).toNatClampNeg) 4) (
  if (((σ.1 6 ((σ.1 2 (p1).toNatClampNeg)).toNatClampNeg) >>> (p2 &&& 31)) &&& 1) = 1 then (
  some (1)) else (
  some (0))))))))
def tyb_M_finds_26 (σ : tyS) (k rec : Int32 → Int32 → Int32 → Int32 → Int32 → Int32 → Int32 → Option Int32) (x1 : Int32) (x2 : Int32) (x3 : Int32) (x4 : Int32) (x5 : Int32) (x6 : Int32) (x7 : Int32) : Option Int32 :=
  chk (inb x6 15) (
  if (σ.1 4 (x6).toNatClampNeg) ≤ x7 then (
  k  x1 x2 x3 x4 x5 x6 x7) else (
  chk (inb ((6 * x6) + x7) 90) (
  chk (inb x6 15) (
  bR (tyf_M_isPromised σ (σ.1 5 (((6 * x6) + x7)).toNatClampNeg)) fun r6 =>
  if r6 = 0 then (
  bR (tyf_M_fits σ (σ.1 5 (((6 * x6) + x7)).toNatClampNeg) x2) fun r8 =>
  if r8 = 0 then (
  rec  x1 x2 x3 x4 x5 x6 (x7 + 1)) else (
  if x4 ≤ (((σ.1 4 (x6).toNatClampNeg) - 1) - x7) then (
  rec  x1 x2 x3 x4 x5 x6 (x7 + 1)) else (
  rec  x1 x2 (σ.1 5 (((6 * x6) + x7)).toNatClampNeg) (((σ.1 4 (x6).toNatClampNeg) - 1) - x7) x5 x6 (x7 + 1)))) else (
  rec  x1 x2 x3 x4 x5 x6 (x7 + 1))))))
def tyl_M_finds_26 (σ : tyS) (k : Int32 → Int32 → Int32 → Int32 → Int32 → Int32 → Int32 → Option Int32) : Nat → Int32 → Int32 → Int32 → Int32 → Int32 → Int32 → Int32 → Option Int32
  | 0, _, _, _, _, _, _, _ => none
  | n + 1, x1, x2, x3, x4, x5, x6, x7 => tyb_M_finds_26 σ k (tyl_M_finds_26 σ k n) x1 x2 x3 x4 x5 x6 x7
def tyb_M_finds_9 (σ : tyS) (k rec : Int32 → Int32 → Int32 → Int32 → Int32 → Option Int32) (x1 : Int32) (x2 : Int32) (x3 : Int32) (x4 : Int32) (x5 : Int32) : Option Int32 :=
  if 5 ≤ x5 then (
  k  x1 x2 x3 x4 x5) else (
  tyl_M_finds_26 σ (fun x1 x2 x3 x4 x5 x6 x7 =>
  rec  x1 x2 x3 x4 (x5 + 1)) 64  x1 x2 x3 x4 x5 ((5 * x1) + x5) 0)
def tyl_M_finds_9 (σ : tyS) (k : Int32 → Int32 → Int32 → Int32 → Int32 → Option Int32) : Nat → Int32 → Int32 → Int32 → Int32 → Int32 → Option Int32
  | 0, _, _, _, _, _ => none
  | n + 1, x1, x2, x3, x4, x5 => tyb_M_finds_9 σ k (tyl_M_finds_9 σ k n) x1 x2 x3 x4 x5
def tyf_M_finds (σ : tyS) (p1 : Int32) (p2 : Int32) : Option Int32 :=
  tyl_M_finds_9 σ (fun x1 x2 x3 x4 x5 =>
  some (x3)) 64  p1 p2 (-1) 6 0
def tyf_M_adds (σ : tyS) (p1 : Int32) (p2 : Int32) : Option tyS :=
  chk (inb p1 40) (
  chk (inb ((30 * p1) + (σ.1 18 (p1).toNatClampNeg)) 1200) (stp (sW σ 19 ((30 * p1) + (σ.1 18 (p1).toNatClampNeg)) p2) fun σ3 =>
  chk (inb p1 40) (
  chk (inb p1 40) (stp (sW σ3 18 p1 ((σ3.1 18 (p1).toNatClampNeg) + 1)) fun σ6 =>
  chk (inb p2 30) (stp (sW σ6 3 p2 p1) fun σ8 =>
  some σ8)))))
def tyf_M_ask (σ : tyS) (p1 : Int32) (p2 : Int32) : Option (Int32 × tyS) :=
  bR (tyf_M_isCall σ p1) fun r1 =>
  if r1 = 0 then (
  stp (sV σ 0 1) fun σ78 =>
  some (0, σ78)) else (
  bR (tyf_M_isGrain σ p2) fun r3 =>
  if r3 = 0 then (
  stp (sV σ 0 2) fun σ77 =>
  some (0, σ77)) else (
  chk (inb p1 60) (
  if (σ.1 11 (p1).toNatClampNeg) = 0 then (
  stp (sV σ 0 3) fun σ76 =>
  some (0, σ76)) else (
  stp (sV σ 0 0) fun σ7 =>
  chk (inb p1 60) (
  if (σ7.1 12 (p1).toNatClampNeg) = (-1) then (
  if 40 ≤ (σ7.2 5) then (
  stp (sV σ7 0 3) fun σ45 =>
  some (0, σ45)) else (
  stp (sV σ7 0 0) fun σ46 =>
  chk (inb p1 60) (
  bR (tyf_M_finds σ46 (σ46.1 10 (p1).toNatClampNeg) p2) fun r48 =>
  if r48 = (-1) then (
  if r48 = (-1) then (
  some (r48, σ46)) else (
  chk (inb p1 60) (
  bR (tyf_M_adds σ46 (σ46.1 12 (p1).toNatClampNeg) r48) fun σ52 =>
  some (r48, σ52)))) else (
  chk (inb p1 60) (
  if (σ46.1 12 (p1).toNatClampNeg) = (-1) then (
  chk (inb (σ46.2 5) 40) (stp (sW σ46 13 (σ46.2 5) 0) fun σ59 =>
  chk (inb (σ59.2 5) 40) (stp (sW σ59 14 (σ59.2 5) p2) fun σ61 =>
  chk (inb p1 60) (
  chk (inb (σ61.2 5) 40) (stp (sW σ61 15 (σ61.2 5) (σ61.1 9 (p1).toNatClampNeg)) fun σ64 =>
  chk (inb p1 60) (
  chk (inb (σ64.2 5) 40) (stp (sW σ64 16 (σ64.2 5) (σ64.1 10 (p1).toNatClampNeg)) fun σ67 =>
  chk (inb (σ67.2 5) 40) (stp (sW σ67 18 (σ67.2 5) 0) fun σ69 =>
  chk (inb p1 60) (stp (sW σ69 12 p1 (σ69.2 5)) fun σ71 =>
  stp (sV σ71 5 ((σ71.2 5) + 1)) fun σ72 =>
  if r48 = (-1) then (
  some (r48, σ72)) else (
  chk (inb p1 60) (
  bR (tyf_M_adds σ72 (σ72.1 12 (p1).toNatClampNeg) r48) fun σ75 =>
  some (r48, σ75)))))))))))) else (
  if r48 = (-1) then (
  some (r48, σ46)) else (
  chk (inb p1 60) (
  bR (tyf_M_adds σ46 (σ46.1 12 (p1).toNatClampNeg) r48) fun σ57 =>
  some (r48, σ57))))))))) else (
  chk (inb p1 60) (
  chk (inb (σ7.1 12 (p1).toNatClampNeg) 40) (
  if (σ7.1 14 ((σ7.1 12 (p1).toNatClampNeg)).toNatClampNeg) = p2 then (
  stp (sV σ7 0 0) fun σ14 =>
  chk (inb p1 60) (
  bR (tyf_M_finds σ14 (σ14.1 10 (p1).toNatClampNeg) p2) fun r16 =>
  if r16 = (-1) then (
  if r16 = (-1) then (
  some (r16, σ14)) else (
  chk (inb p1 60) (
  bR (tyf_M_adds σ14 (σ14.1 12 (p1).toNatClampNeg) r16) fun σ20 =>
  some (r16, σ20)))) else (
  chk (inb p1 60) (
  if (σ14.1 12 (p1).toNatClampNeg) = (-1) then (
  chk (inb (σ14.2 5) 40) (stp (sW σ14 13 (σ14.2 5) 0) fun σ27 =>
  chk (inb (σ27.2 5) 40) (stp (sW σ27 14 (σ27.2 5) p2) fun σ29 =>
  chk (inb p1 60) (
  chk (inb (σ29.2 5) 40) (stp (sW σ29 15 (σ29.2 5) (σ29.1 9 (p1).toNatClampNeg)) fun σ32 =>
  chk (inb p1 60) (
  chk (inb (σ32.2 5) 40) (stp (sW σ32 16 (σ32.2 5) (σ32.1 10 (p1).toNatClampNeg)) fun σ35 =>
  chk (inb (σ35.2 5) 40) (stp (sW σ35 18 (σ35.2 5) 0) fun σ37 =>
  chk (inb p1 60) (stp (sW σ37 12 p1 (σ37.2 5)) fun σ39 =>
  stp (sV σ39 5 ((σ39.2 5) + 1)) fun σ40 =>
  if r16 = (-1) then (
  some (r16, σ40)) else (
  chk (inb p1 60) (
  bR (tyf_M_adds σ40 (σ40.1 12 (p1).toNatClampNeg) r16) fun σ43 =>
  some (r16, σ43)))))))))))) else (
  if r16 = (-1) then (
  some (r16, σ14)) else (
  chk (inb p1 60) (
  bR (tyf_M_adds σ14 (σ14.1 12 (p1).toNatClampNeg) r16) fun σ25 =>
  some (r16, σ25)))))))) else (
  stp (sV σ7 0 3) fun σ13 =>
  some (0, σ13))))))))))
def tyf_M_confirm (σ : tyS) (p1 : Int32) : Option (Int32 × tyS) :=
  bR (tyf_M_isCall σ p1) fun r1 =>
  if r1 = 0 then (
  stp (sV σ 0 1) fun σ15 =>
  some (0, σ15)) else (
  chk (inb p1 60) (
  if (σ.1 11 (p1).toNatClampNeg) = 0 then (
  stp (sV σ 0 2) fun σ5 =>
  some (0, σ5)) else (
  chk (inb p1 60) (
  if (σ.1 12 (p1).toNatClampNeg) = (-1) then (
  stp (sV σ 0 2) fun σ14 =>
  some (0, σ14)) else (
  stp (sV σ 0 0) fun σ8 =>
  chk (inb p1 60) (
  chk (inb (σ8.1 12 (p1).toNatClampNeg) 40) (stp (sW σ8 13 (σ8.1 12 (p1).toNatClampNeg) 2) fun σ11 =>
  chk (inb p1 60) (stp (sW σ11 12 p1 (-1)) fun σ13 =>
  some ((σ8.1 12 (p1).toNatClampNeg), σ13)))))))))
def tyf_M_isBooking (σ : tyS) (p1 : Int32) : Option Int32 :=
  bR (tyf_M_in σ p1 0 ((σ.2 5) - 1)) fun r1 =>
  chk (decide (vp_nar .boolean r1 = r1)) (
  some (r1))
def tyf_M_isOf (σ : tyS) (p1 : Int32) (p2 : Int32) : Option Int32 :=
  chk (inb p2 40) (
  chk (inb p1 60) (
  if (σ.1 15 (p2).toNatClampNeg) = (σ.1 9 (p1).toNatClampNeg) then (
  chk (inb p2 40) (
  chk (inb p1 60) (
  if (σ.1 16 (p2).toNatClampNeg) = (σ.1 10 (p1).toNatClampNeg) then (
  some (1)) else (
  some (0))))) else (
  some (0))))
def tyf_M_resume (σ : tyS) (p1 : Int32) (p2 : Int32) : Option (Int32 × tyS) :=
  bR (tyf_M_isCall σ p1) fun r1 =>
  if r1 = 0 then (
  stp (sV σ 0 1) fun σ3 =>
  some (0, σ3)) else (
  bR (tyf_M_isBooking σ p2) fun r4 =>
  if r4 = 0 then (
  stp (sV σ 0 1) fun σ6 =>
  some (0, σ6)) else (
  stp (sV σ 0 0) fun σ7 =>
  chk (inb p1 60) (
  if (σ7.1 11 (p1).toNatClampNeg) = 0 then (
  stp (sV σ7 0 2) fun σ10 =>
  some (0, σ10)) else (
  chk (inb p1 60) (
  if (σ7.1 12 (p1).toNatClampNeg) = (-1) then (
  chk (inb p2 40) (
  if (σ7.1 13 (p2).toNatClampNeg) = 1 then (
  bR (tyf_M_isOf σ7 p1 p2) fun r17 =>
  if r17 = 0 then (
  stp (sV σ7 0 2) fun σ19 =>
  some (0, σ19)) else (
  stp (sV σ7 0 0) fun σ20 =>
  chk (inb p2 40) (stp (sW σ20 13 p2 0) fun σ22 =>
  chk (inb p1 60) (stp (sW σ22 12 p1 p2) fun σ24 =>
  chk (inb p2 40) (
  some ((σ24.1 18 (p2).toNatClampNeg), σ24)))))) else (
  stp (sV σ7 0 2) fun σ16 =>
  some (0, σ16)))) else (
  stp (sV σ7 0 2) fun σ13 =>
  some (0, σ13)))))))
def tyf_M_cancel (σ : tyS) (p1 : Int32) (p2 : Int32) : Option (Int32 × tyS) :=
  bR (tyf_M_isCall σ p1) fun r1 =>
  if r1 = 0 then (
  stp (sV σ 0 1) fun σ3 =>
  some (0, σ3)) else (
  bR (tyf_M_isBooking σ p2) fun r4 =>
  if r4 = 0 then (
  stp (sV σ 0 1) fun σ6 =>
  some (0, σ6)) else (
  stp (sV σ 0 0) fun σ7 =>
  chk (inb p1 60) (
  if (σ7.1 11 (p1).toNatClampNeg) = 0 then (
  stp (sV σ7 0 2) fun σ10 =>
  some (0, σ10)) else (
  chk (inb p2 40) (
  if (σ7.1 13 (p2).toNatClampNeg) = 2 then (
  bR (tyf_M_isOf σ7 p1 p2) fun r14 =>
  if r14 = 0 then (
  stp (sV σ7 0 2) fun σ16 =>
  some (0, σ16)) else (
  stp (sV σ7 0 0) fun σ17 =>
  chk (inb p2 40) (stp (sW σ17 13 p2 5) fun σ19 =>
  chk (inb p2 40) (
  some ((σ19.1 18 (p2).toNatClampNeg), σ19))))) else (
  stp (sV σ7 0 2) fun σ13 =>
  some (0, σ13)))))))
def tyb_M_ends_9 (k rec : tyS → Int32 → Int32 → Option tyS) (σ0 : tyS) (x1 : Int32) (x2 : Int32) : Option tyS :=
  if 6 ≤ x2 then (
  k σ0 x1 x2) else (
  chk (inb x2 6) (
  if (σ0.1 7 (x2).toNatClampNeg) = x1 then (
  chk (inb x2 6) (stp (sW σ0 7 x2 (-1)) fun σ10 =>
  rec σ10 x1 (x2 + 1))) else (
  chk (inb x2 6) (
  chk (inb x2 6) (stp (sW σ0 7 x2 (σ0.1 7 (x2).toNatClampNeg)) fun σ8 =>
  rec σ8 x1 (x2 + 1))))))
def tyl_M_ends_9 (k : tyS → Int32 → Int32 → Option tyS) : Nat → tyS → Int32 → Int32 → Option tyS
  | 0, _, _, _ => none
  | n + 1, σ0, x1, x2 => tyb_M_ends_9 k (tyl_M_ends_9 k n) σ0 x1 x2
def tyf_M_ends (σ : tyS) (p1 : Int32) : Option tyS :=
  chk (inb p1 60) (stp (sW σ 11 p1 0) fun σ2 =>
  tyl_M_ends_9 (fun σ0 x1 x2 =>
  some σ0) 64 σ2 p1 0)
def tyf_M_hangUp (σ : tyS) (p1 : Int32) : Option (Int32 × tyS) :=
  bR (tyf_M_isCall σ p1) fun r1 =>
  if r1 = 0 then (
  stp (sV σ 0 1) fun σ13 =>
  some (0, σ13)) else (
  chk (inb p1 60) (
  if (σ.1 11 (p1).toNatClampNeg) = 0 then (
  stp (sV σ 0 2) fun σ5 =>
  some (0, σ5)) else (
  stp (sV σ 0 0) fun σ6 =>
  bR (tyf_M_ends σ6 p1) fun σ7 =>
  chk (inb p1 60) (
  if (σ7.1 12 (p1).toNatClampNeg) = (-1) then (
  some (0, σ7)) else (
  chk (inb (σ7.1 12 (p1).toNatClampNeg) 40) (stp (sW σ7 13 (σ7.1 12 (p1).toNatClampNeg) 5) fun σ11 =>
  chk (inb (σ7.1 12 (p1).toNatClampNeg) 40) (
  some ((σ11.1 18 ((σ7.1 12 (p1).toNatClampNeg)).toNatClampNeg), σ11))))))))
def tyf_M_callOf (σ : tyS) (p1 : Int32) : Option (Int32 × tyS) :=
  bR (tyf_M_in σ p1 0 5) fun r1 =>
  if r1 = 0 then (
  stp (sV σ 0 1) fun σ3 =>
  some (0, σ3)) else (
  stp (sV σ 0 0) fun σ4 =>
  bR (tyf_M_callNow σ4 p1) fun r5 =>
  some (r5, σ4))
def tyb_M_way_34 (k rec : tyS → Int32 → Int32 → Int32 → Option (Int32 × tyS)) (σ0 : tyS) (x1 : Int32) (x2 : Int32) (x3 : Int32) : Option (Int32 × tyS) :=
  if 6 ≤ x3 then (
  k σ0 x1 x2 x3) else (
  if (σ0.2 0) = 0 then (
  chk (inb x3 6) (
  if (σ0.1 7 (x3).toNatClampNeg) = x1 then (
  rec σ0 x1 (x2 + 1) (x3 + 1)) else (
  rec σ0 x1 (x2 + 0) (x3 + 1)))) else (
  k σ0 x1 x2 x3))
def tyl_M_way_34 (k : tyS → Int32 → Int32 → Int32 → Option (Int32 × tyS)) : Nat → tyS → Int32 → Int32 → Int32 → Option (Int32 × tyS)
  | 0, _, _, _, _ => none
  | n + 1, σ0, x1, x2, x3 => tyb_M_way_34 k (tyl_M_way_34 k n) σ0 x1 x2 x3
def tyf_M_way (σ : tyS) (p1 : Int32) : Option (Int32 × tyS) :=
  bR (tyf_M_isCall σ p1) fun r1 =>
  if r1 = 0 then (
  stp (sV σ 0 1) fun σ15 =>
  tyl_M_way_34 (fun σ0 x1 x2 x3 =>
  some (x2, σ0)) 64 σ15 p1 0 0) else (
  chk (inb p1 60) (
  if (σ.1 11 (p1).toNatClampNeg) = 0 then (
  stp (sV σ 0 2) fun σ5 =>
  tyl_M_way_34 (fun σ0 x1 x2 x3 =>
  some (x2, σ0)) 64 σ5 p1 0 0) else (
  stp (sV σ 0 0) fun σ10 =>
  tyl_M_way_34 (fun σ0 x1 x2 x3 =>
  some (x2, σ0)) 64 σ10 p1 0 0)))
def tyf_M_busy (σ : tyS) : Option (Int32 × tyS) :=
  stp (sV σ 0 0) fun σ1 =>
  some ((σ1.2 4), σ1)
def tyf_M_isTrunk (σ : tyS) (p0 : Int32) (p1 : Int32) (p2 : Int32) : Option Int32 :=
  bR (tyf_M_isYard σ p0) fun r1 =>
  if r1 = 0 then (
  some (0)) else (
  bR (tyf_M_isYard σ p1) fun r3 =>
  if r3 = 0 then (
  some (0)) else (
  if p0 = p1 then (
  some (0)) else (
  bR (tyf_M_in σ p2 0 1) fun r6 =>
  if r6 = 0 then (
  some (0)) else (
  some (1)))))
def tyf_M_cut (σ : tyS) (p1 : Int32) (p2 : Int32) (p3 : Int32) : Option (Int32 × tyS) :=
  bR (tyf_M_isTrunk σ p1 p2 p3) fun r1 =>
  if r1 = 0 then (
  stp (sV σ 0 1) fun σ29 =>
  some (0, σ29)) else (
  bR (tyf_M_between σ p1 p2) fun r3 =>
  chk (inb (r3 + p3) 6) (
  if (σ.1 7 ((r3 + p3)).toNatClampNeg) = (-2) then (
  stp (sV σ 0 2) fun σ28 =>
  some (0, σ28)) else (
  stp (sV σ 0 0) fun σ6 =>
  bR (tyf_M_between σ6 p1 p2) fun r7 =>
  chk (inb (r7 + p3) 6) (
  if (σ6.1 7 ((r7 + p3)).toNatClampNeg) = (-1) then (
  bR (tyf_M_between σ6 p1 p2) fun r10 =>
  chk (inb (r10 + p3) 6) (stp (sW σ6 7 (r10 + p3) (-2)) fun σ12 =>
  some ((σ6.1 7 ((r7 + p3)).toNatClampNeg), σ12))) else (
  bR (tyf_M_ends σ6 (σ6.1 7 ((r7 + p3)).toNatClampNeg)) fun σ13 =>
  chk (inb (σ6.1 7 ((r7 + p3)).toNatClampNeg) 60) (
  if (σ13.1 12 ((σ6.1 7 ((r7 + p3)).toNatClampNeg)).toNatClampNeg) = (-1) then (
  bR (tyf_M_between σ13 p1 p2) fun r16 =>
  chk (inb (r16 + p3) 6) (stp (sW σ13 7 (r16 + p3) (-2)) fun σ18 =>
  some ((σ6.1 7 ((r7 + p3)).toNatClampNeg), σ18))) else (
  chk (inb (σ6.1 7 ((r7 + p3)).toNatClampNeg) 60) (
  chk (inb (σ13.1 12 ((σ6.1 7 ((r7 + p3)).toNatClampNeg)).toNatClampNeg) 40) (stp (sW σ13 13 (σ13.1 12 ((σ6.1 7 ((r7 + p3)).toNatClampNeg)).toNatClampNeg) 1) fun σ21 =>
  chk (inb (σ6.1 7 ((r7 + p3)).toNatClampNeg) 60) (
  chk (inb (σ21.1 12 ((σ6.1 7 ((r7 + p3)).toNatClampNeg)).toNatClampNeg) 40) (stp (sW σ21 17 (σ21.1 12 ((σ6.1 7 ((r7 + p3)).toNatClampNeg)).toNatClampNeg) ((σ21.2 1) + 10)) fun σ24 =>
  bR (tyf_M_between σ24 p1 p2) fun r25 =>
  chk (inb (r25 + p3) 6) (stp (sW σ24 7 (r25 + p3) (-2)) fun σ27 =>
  some ((σ6.1 7 ((r7 + p3)).toNatClampNeg), σ27)))))))))))))
def tyf_M_mend (σ : tyS) (p1 : Int32) (p2 : Int32) (p3 : Int32) : Option tyS :=
  bR (tyf_M_isTrunk σ p1 p2 p3) fun r1 =>
  if r1 = 0 then (
  stp (sV σ 0 1) fun σ11 =>
  some σ11) else (
  bR (tyf_M_between σ p1 p2) fun r3 =>
  chk (inb (r3 + p3) 6) (
  if (σ.1 7 ((r3 + p3)).toNatClampNeg) = (-2) then (
  stp (sV σ 0 0) fun σ6 =>
  bR (tyf_M_between σ6 p1 p2) fun r7 =>
  chk (inb (r7 + p3) 6) (stp (sW σ6 7 (r7 + p3) (-1)) fun σ9 =>
  some σ9)) else (
  stp (sV σ 0 2) fun σ10 =>
  some σ10)))
def tyf_M_trunk (σ : tyS) (p1 : Int32) (p2 : Int32) (p3 : Int32) : Option (Int32 × tyS) :=
  bR (tyf_M_isTrunk σ p1 p2 p3) fun r1 =>
  if r1 = 0 then (
  stp (sV σ 0 1) fun σ3 =>
  some (0, σ3)) else (
  stp (sV σ 0 0) fun σ4 =>
  bR (tyf_M_between σ4 p1 p2) fun r5 =>
  chk (inb (r5 + p3) 6) (
  some ((σ4.1 7 ((r5 + p3)).toNatClampNeg), σ4)))
def tyf_M_setLines (σ : tyS) (p1 : Int32) (p2 : Int32) : Option (Int32 × tyS) :=
  bR (tyf_M_isYard σ p1) fun r1 =>
  if r1 = 0 then (
  stp (sV σ 0 1) fun σ3 =>
  some (0, σ3)) else (
  bR (tyf_M_in σ p2 0 3) fun r4 =>
  if r4 = 0 then (
  stp (sV σ 0 1) fun σ13 =>
  some (0, σ13)) else (
  bR (tyf_M_callsTo σ p1) fun r6 =>
  if r6 ≤ p2 then (
  stp (sV σ 0 0) fun σ8 =>
  chk (inb p1 3) (
  chk (inb p1 3) (stp (sW σ8 8 p1 p2) fun σ11 =>
  some ((σ8.1 8 (p1).toNatClampNeg), σ11)))) else (
  stp (sV σ 0 2) fun σ12 =>
  some (0, σ12))))
def tyb_M_pass_58 (k rec : tyS → Int32 → Int32 → Int32 → Option (Int32 × tyS)) (σ0 : tyS) (x1 : Int32) (x2 : Int32) (x3 : Int32) : Option (Int32 × tyS) :=
  if (σ0.2 5) ≤ x3 then (
  k σ0 x1 x2 x3) else (
  chk (inb x3 40) (
  if (σ0.1 13 (x3).toNatClampNeg) = 1 then (
  chk (inb x3 40) (
  if (σ0.2 1) < (σ0.1 17 (x3).toNatClampNeg) then (
  rec σ0 x1 x2 (x3 + 1)) else (
  chk (inb x3 40) (stp (sW σ0 13 x3 5) fun σ12 =>
  rec σ12 x1 (x2 + 1) (x3 + 1))))) else (
  rec σ0 x1 x2 (x3 + 1))))
def tyl_M_pass_58 (k : tyS → Int32 → Int32 → Int32 → Option (Int32 × tyS)) : Nat → tyS → Int32 → Int32 → Int32 → Option (Int32 × tyS)
  | 0, _, _, _, _ => none
  | n + 1, σ0, x1, x2, x3 => tyb_M_pass_58 k (tyl_M_pass_58 k n) σ0 x1 x2 x3
def tyf_M_pass (σ : tyS) (p1 : Int32) : Option (Int32 × tyS) :=
  bR (tyf_M_in σ p1 1 100) fun r1 =>
  if r1 = 0 then (
  stp (sV σ 0 1) fun σ14 =>
  some (0, σ14)) else (
  if ((σ.2 1) + p1) ≤ 10000 then (
  stp (sV σ 0 0) fun σ4 =>
  stp (sV σ4 1 ((σ4.2 1) + p1)) fun σ5 =>
  tyl_M_pass_58 (fun σ0 x1 x2 x3 =>
  some (x2, σ0)) 64 σ5 p1 0 0) else (
  stp (sV σ 0 2) fun σ13 =>
  some (0, σ13)))
def tyf_M_bookings (σ : tyS) : Option (Int32 × tyS) :=
  stp (sV σ 0 0) fun σ1 =>
  some ((σ1.2 5), σ1)
def tyf_M_asksBooking (σ : tyS) (p1 : Int32) : Option (Int32 × tyS) :=
  bR (tyf_M_isBooking σ p1) fun r1 =>
  if r1 = 0 then (
  stp (sV σ 0 1) fun σ3 =>
  some (0, σ3)) else (
  stp (sV σ 0 0) fun σ4 =>
  some (1, σ4))
def tyf_M_state (σ : tyS) (p1 : Int32) : Option (Int32 × tyS) :=
  bN (tyf_M_asksBooking σ p1) fun r2 σ1 =>
  if r2 = 0 then (
  some (0, σ1)) else (
  chk (inb p1 40) (
  some ((σ1.1 13 (p1).toNatClampNeg), σ1)))
def tyf_M_wagons (σ : tyS) (p1 : Int32) : Option (Int32 × tyS) :=
  bN (tyf_M_asksBooking σ p1) fun r2 σ1 =>
  if r2 = 0 then (
  some (0, σ1)) else (
  chk (inb p1 40) (
  some ((σ1.1 18 (p1).toNatClampNeg), σ1)))
def tyf_M_wagonOf (σ : tyS) (p1 : Int32) (p2 : Int32) : Option (Int32 × tyS) :=
  bR (tyf_M_isBooking σ p1) fun r1 =>
  if r1 = 0 then (
  stp (sV σ 0 1) fun σ3 =>
  some (0, σ3)) else (
  chk (inb p1 40) (
  bR (tyf_M_in σ p2 0 ((σ.1 18 (p1).toNatClampNeg) - 1)) fun r5 =>
  if r5 = 0 then (
  stp (sV σ 0 1) fun σ7 =>
  some (0, σ7)) else (
  stp (sV σ 0 0) fun σ8 =>
  chk (inb ((30 * p1) + p2) 1200) (
  some ((σ8.1 19 (((30 * p1) + p2)).toNatClampNeg), σ8)))))
def tyf_M_lapses (σ : tyS) (p1 : Int32) : Option (Int32 × tyS) :=
  bR (tyf_M_isBooking σ p1) fun r1 =>
  if r1 = 0 then (
  stp (sV σ 0 1) fun σ8 =>
  some (0, σ8)) else (
  chk (inb p1 40) (
  if (σ.1 13 (p1).toNatClampNeg) = 1 then (
  stp (sV σ 0 0) fun σ6 =>
  chk (inb p1 40) (
  some (((σ6.1 17 (p1).toNatClampNeg) - (σ6.2 1)), σ6))) else (
  stp (sV σ 0 2) fun σ5 =>
  some (0, σ5))))
def tyb_M_areOn_5 (σ : tyS) (k rec : Int32 → Int32 → Int32 → Int32 → Option Int32) (x1 : Int32) (x2 : Int32) (x3 : Int32) (x4 : Int32) : Option Int32 :=
  chk (inb x1 40) (
  if (σ.1 18 (x1).toNatClampNeg) ≤ x4 then (
  k  x1 x2 x3 x4) else (
  if x3 = 0 then (
  rec  x1 x2 0 (x4 + 1)) else (
  chk (inb ((30 * x1) + x4) 1200) (
  chk (inb (σ.1 19 (((30 * x1) + x4)).toNatClampNeg) 30) (
  if (σ.1 1 ((σ.1 19 (((30 * x1) + x4)).toNatClampNeg)).toNatClampNeg) = x2 then (
  rec  x1 x2 1 (x4 + 1)) else (
  rec  x1 x2 0 (x4 + 1)))))))
def tyl_M_areOn_5 (σ : tyS) (k : Int32 → Int32 → Int32 → Int32 → Option Int32) : Nat → Int32 → Int32 → Int32 → Int32 → Option Int32
  | 0, _, _, _, _ => none
  | n + 1, x1, x2, x3, x4 => tyb_M_areOn_5 σ k (tyl_M_areOn_5 σ k n) x1 x2 x3 x4
def tyf_M_areOn (σ : tyS) (p1 : Int32) (p2 : Int32) : Option Int32 :=
  tyl_M_areOn_5 σ (fun x1 x2 x3 x4 =>
  chk (decide (vp_nar .boolean x3 = x3)) (
  some (x3))) 64  p1 p2 1 0
def tyb_M_canDepart_25 (σ : tyS) (k rec : Int32 → Int32 → Int32 → Int32 → Int32 → Option Int32) (x1 : Int32) (x2 : Int32) (x3 : Int32) (x4 : Int32) (x5 : Int32) : Option Int32 :=
  chk (inb x3 15) (
  if (σ.1 4 (x3).toNatClampNeg) ≤ x5 then (
  k  x1 x2 x3 x4 x5) else (
  if x4 = 0 then (
  k  x1 x2 x3 x4 x5) else (
  chk (inb ((6 * x3) + x5) 90) (
  chk (inb (σ.1 5 (((6 * x3) + x5)).toNatClampNeg) 30) (
  if (σ.1 3 ((σ.1 5 (((6 * x3) + x5)).toNatClampNeg)).toNatClampNeg) = (-1) then (
  rec  x1 x2 x3 0 (x5 + 1)) else (
  chk (inb (σ.1 3 ((σ.1 5 (((6 * x3) + x5)).toNatClampNeg)).toNatClampNeg) 40) (
  if (σ.1 13 ((σ.1 3 ((σ.1 5 (((6 * x3) + x5)).toNatClampNeg)).toNatClampNeg)).toNatClampNeg) = 2 then (
  bR (tyf_M_areOn σ (σ.1 3 ((σ.1 5 (((6 * x3) + x5)).toNatClampNeg)).toNatClampNeg) ((10 * x1) + x2)) fun r11 =>
  if r11 = 0 then (
  rec  x1 x2 x3 0 (x5 + 1)) else (
  rec  x1 x2 x3 1 (x5 + 1))) else (
  rec  x1 x2 x3 0 (x5 + 1)))))))))
def tyl_M_canDepart_25 (σ : tyS) (k : Int32 → Int32 → Int32 → Int32 → Int32 → Option Int32) : Nat → Int32 → Int32 → Int32 → Int32 → Int32 → Option Int32
  | 0, _, _, _, _, _ => none
  | n + 1, x1, x2, x3, x4, x5 => tyb_M_canDepart_25 σ k (tyl_M_canDepart_25 σ k n) x1 x2 x3 x4 x5
def tyf_M_canDepart (σ : tyS) (p1 : Int32) (p2 : Int32) : Option Int32 :=
  chk (inb ((5 * p1) + p2) 15) (
  if (σ.1 4 (((5 * p1) + p2)).toNatClampNeg) ≤ 0 then (
  tyl_M_canDepart_25 σ (fun x1 x2 x3 x4 x5 =>
  chk (decide (vp_nar .boolean x4 = x4)) (
  some (x4))) 64  p1 p2 ((5 * p1) + p2) 0 0) else (
  tyl_M_canDepart_25 σ (fun x1 x2 x3 x4 x5 =>
  chk (decide (vp_nar .boolean x4 = x4)) (
  some (x4))) 64  p1 p2 ((5 * p1) + p2) 1 0))
def tyb_M_depart_61 (k rec : tyS → Int32 → Int32 → Int32 → Int32 → Int32 → Option (Int32 × tyS)) (σ0 : tyS) (x1 : Int32) (x2 : Int32) (x3 : Int32) (x4 : Int32) (x5 : Int32) : Option (Int32 × tyS) :=
  chk (inb x4 15) (
  if (σ0.1 4 (x4).toNatClampNeg) ≤ x5 then (
  k σ0 x1 x2 x3 x4 x5) else (
  chk (inb ((6 * x4) + x5) 90) (
  chk (inb ((6 * (σ0.2 6)) + x5) 240) (stp (sW σ0 23 ((6 * (σ0.2 6)) + x5) (σ0.1 5 (((6 * x4) + x5)).toNatClampNeg)) fun σ16 =>
  chk (inb (σ0.1 5 (((6 * x4) + x5)).toNatClampNeg) 30) (stp (sW σ16 1 (σ0.1 5 (((6 * x4) + x5)).toNatClampNeg) (-1)) fun σ18 =>
  chk (inb (σ0.1 5 (((6 * x4) + x5)).toNatClampNeg) 30) (
  chk (inb (σ18.1 3 ((σ0.1 5 (((6 * x4) + x5)).toNatClampNeg)).toNatClampNeg) 40) (
  chk (inb (σ0.1 5 (((6 * x4) + x5)).toNatClampNeg) 30) (stp (sW σ18 2 (σ0.1 5 (((6 * x4) + x5)).toNatClampNeg) (σ18.1 14 ((σ18.1 3 ((σ0.1 5 (((6 * x4) + x5)).toNatClampNeg)).toNatClampNeg)).toNatClampNeg)) fun σ22 =>
  chk (inb (σ0.1 5 (((6 * x4) + x5)).toNatClampNeg) 30) (
  chk (inb (σ22.1 3 ((σ0.1 5 (((6 * x4) + x5)).toNatClampNeg)).toNatClampNeg) 40) (stp (sW σ22 13 (σ22.1 3 ((σ0.1 5 (((6 * x4) + x5)).toNatClampNeg)).toNatClampNeg) 3) fun σ25 =>
  rec σ25 x1 x2 x3 x4 (x5 + 1)))))))))))
def tyl_M_depart_61 (k : tyS → Int32 → Int32 → Int32 → Int32 → Int32 → Option (Int32 × tyS)) : Nat → tyS → Int32 → Int32 → Int32 → Int32 → Int32 → Option (Int32 × tyS)
  | 0, _, _, _, _, _, _ => none
  | n + 1, σ0, x1, x2, x3, x4, x5 => tyb_M_depart_61 k (tyl_M_depart_61 k n) σ0 x1 x2 x3 x4 x5
def tyf_M_depart (σ : tyS) (p1 : Int32) (p2 : Int32) (p3 : Int32) : Option (Int32 × tyS) :=
  bR (tyf_M_isTrack σ p1 p2) fun r1 =>
  if r1 = 0 then (
  stp (sV σ 0 1) fun σ3 =>
  some (0, σ3)) else (
  bR (tyf_M_isYard σ p3) fun r4 =>
  if r4 = 0 then (
  stp (sV σ 0 1) fun σ6 =>
  some (0, σ6)) else (
  if p1 = p3 then (
  stp (sV σ 0 1) fun σ34 =>
  some (0, σ34)) else (
  bR (tyf_M_canDepart σ p1 p2) fun r8 =>
  if r8 = 0 then (
  stp (sV σ 0 2) fun σ10 =>
  some (0, σ10)) else (
  stp (sV σ 0 0) fun σ11 =>
  tyl_M_depart_61 (fun σ0 x1 x2 x3 x4 x5 =>
  chk (inb x4 15) (
  chk (inb (σ0.2 6) 40) (stp (sW σ0 22 (σ0.2 6) (σ0.1 4 (x4).toNatClampNeg)) fun σ28 =>
  chk (inb x4 15) (stp (sW σ28 4 x4 0) fun σ30 =>
  chk (inb (σ30.2 6) 40) (stp (sW σ30 20 (σ30.2 6) x3) fun σ32 =>
  stp (sV σ32 6 ((σ32.2 6) + 1)) fun σ33 =>
  some (((σ33.2 6) - 1), σ33)))))) 64 σ11 p1 p2 p3 ((5 * p1) + p2) 0))))
def tyb_M_arrive_106 (k rec : tyS → Int32 → Int32 → Int32 → Option (Int32 × tyS)) (σ0 : tyS) (x1 : Int32) (x2 : Int32) (x3 : Int32) : Option (Int32 × tyS) :=
  chk (inb x1 40) (
  if (σ0.1 22 (x1).toNatClampNeg) ≤ x3 then (
  k σ0 x1 x2 x3) else (
  chk (inb ((6 * x1) + x3) 240) (
  chk (inb x1 40) (
  bR (tyf_M_puts σ0 (σ0.1 20 (x1).toNatClampNeg) x2 (σ0.1 23 (((6 * x1) + x3)).toNatClampNeg)) fun σ20 =>
  chk (inb (σ0.1 23 (((6 * x1) + x3)).toNatClampNeg) 30) (
  chk (inb (σ20.1 3 ((σ0.1 23 (((6 * x1) + x3)).toNatClampNeg)).toNatClampNeg) 40) (stp (sW σ20 13 (σ20.1 3 ((σ0.1 23 (((6 * x1) + x3)).toNatClampNeg)).toNatClampNeg) 4) fun σ23 =>
  rec σ23 x1 x2 (x3 + 1)))))))
def tyl_M_arrive_106 (k : tyS → Int32 → Int32 → Int32 → Option (Int32 × tyS)) : Nat → tyS → Int32 → Int32 → Int32 → Option (Int32 × tyS)
  | 0, _, _, _, _ => none
  | n + 1, σ0, x1, x2, x3 => tyb_M_arrive_106 k (tyl_M_arrive_106 k n) σ0 x1 x2 x3
def tyf_M_arrive (σ : tyS) (p1 : Int32) (p2 : Int32) : Option (Int32 × tyS) :=
  bR (tyf_M_in σ p1 0 ((σ.2 6) - 1)) fun r1 =>
  if r1 = 0 then (
  stp (sV σ 0 1) fun σ28 =>
  some (0, σ28)) else (
  bR (tyf_M_in σ p2 0 4) fun r3 =>
  if r3 = 0 then (
  stp (sV σ 0 2) fun σ27 =>
  some (0, σ27)) else (
  stp (sV σ 0 0) fun σ5 =>
  chk (inb p1 40) (
  if (σ5.1 21 (p1).toNatClampNeg) = 0 then (
  chk (inb p1 40) (
  chk (inb ((5 * (σ5.1 20 (p1).toNatClampNeg)) + p2) 15) (
  chk (inb p1 40) (
  if ((σ5.1 4 (((5 * (σ5.1 20 (p1).toNatClampNeg)) + p2)).toNatClampNeg) + (σ5.1 22 (p1).toNatClampNeg)) ≤ 6 then (
  stp (sV σ5 0 0) fun σ13 =>
  chk (inb p1 40) (stp (sW σ13 21 p1 1) fun σ15 =>
  tyl_M_arrive_106 (fun σ0 x1 x2 x3 =>
  chk (inb x1 40) (
  chk (inb ((5 * (σ0.1 20 (x1).toNatClampNeg)) + x2) 15) (
  some ((σ0.1 4 (((5 * (σ0.1 20 (x1).toNatClampNeg)) + x2)).toNatClampNeg), σ0)))) 64 σ15 p1 p2 0)) else (
  stp (sV σ5 0 3) fun σ26 =>
  some (0, σ26)))))) else (
  stp (sV σ5 0 3) fun σ8 =>
  some (0, σ8)))))
def tyf_M_trains (σ : tyS) : Option (Int32 × tyS) :=
  stp (sV σ 0 0) fun σ1 =>
  some ((σ1.2 6), σ1)
end
